section
-- ===== PART A: goes FIRST, ahead of the names: the tables' words, and 'selects' of the private methods out of them =====
/-- a private method of a class that the tables say can be made, by its rows of tables_1 -/
def lw_okq (q : MethodName × Nat) : Prop := (q.1.cls ≠ "java/lang/invoke/MethodHandle" ∧ q.1.cls ≠ "java/lang/invoke/VarHandle") ∧ Cond.instantiable q.1.cls q.2 ∈ tables_1 ∧ Cond.privateMethod q.1 ∈ tables_1 ∧ Cond.instanceMethod q.1 ∈ tables_1
theorem lw_p0 : lw_okq (⟨"PeerNotes$History", "dropOldest", "()V"⟩, 2) := ⟨⟨by decide +kernel, by decide +kernel⟩, List.mem_of_getElem? (i := 209) (by decide +kernel), List.mem_of_getElem? (i := 362) (by decide +kernel), List.mem_of_getElem? (i := 363) (by decide +kernel)⟩
theorem lw_p1 : lw_okq (⟨"PeerNotes$Payout", "clear", "()V"⟩, 3) := ⟨⟨by decide +kernel, by decide +kernel⟩, List.mem_of_getElem? (i := 313) (by decide +kernel), List.mem_of_getElem? (i := 464) (by decide +kernel), List.mem_of_getElem? (i := 465) (by decide +kernel)⟩
theorem lw_p2 : lw_okq (⟨"PeerNotes$Payout", "weighPrincipals", "(LPeerNotes$Market;IZZ)V"⟩, 3) := ⟨⟨by decide +kernel, by decide +kernel⟩, List.mem_of_getElem? (i := 313) (by decide +kernel), List.mem_of_getElem? (i := 468) (by decide +kernel), List.mem_of_getElem? (i := 469) (by decide +kernel)⟩
theorem lw_p3 : lw_okq (⟨"PeerNotes$Payout", "shareOut", "(I[I)V"⟩, 3) := ⟨⟨by decide +kernel, by decide +kernel⟩, List.mem_of_getElem? (i := 313) (by decide +kernel), List.mem_of_getElem? (i := 518) (by decide +kernel), List.mem_of_getElem? (i := 519) (by decide +kernel)⟩
theorem lw_p4 : lw_okq (⟨"PeerNotes$Payout", "shareByClass", "(LPeerNotes$Market;III)V"⟩, 3) := ⟨⟨by decide +kernel, by decide +kernel⟩, List.mem_of_getElem? (i := 313) (by decide +kernel), List.mem_of_getElem? (i := 522) (by decide +kernel), List.mem_of_getElem? (i := 523) (by decide +kernel)⟩
theorem lw_p5 : lw_okq (⟨"PeerNotesModel", "aside", "()V"⟩, 15) := ⟨⟨by decide +kernel, by decide +kernel⟩, List.mem_of_getElem? (i := 707) (by decide +kernel), List.mem_of_getElem? (i := 763) (by decide +kernel), List.mem_of_getElem? (i := 764) (by decide +kernel)⟩
theorem lw_p6 : lw_okq (⟨"PeerNotesModel", "acted", "(I)I"⟩, 15) := ⟨⟨by decide +kernel, by decide +kernel⟩, List.mem_of_getElem? (i := 707) (by decide +kernel), List.mem_of_getElem? (i := 767) (by decide +kernel), List.mem_of_getElem? (i := 768) (by decide +kernel)⟩
theorem lw_p7 : lw_okq (⟨"PeerNotesModel", "putBack", "()V"⟩, 15) := ⟨⟨by decide +kernel, by decide +kernel⟩, List.mem_of_getElem? (i := 707) (by decide +kernel), List.mem_of_getElem? (i := 771) (by decide +kernel), List.mem_of_getElem? (i := 772) (by decide +kernel)⟩
theorem lw_p8 : lw_okq (⟨"PeerNotesModel", "isInvestor", "(I)Z"⟩, 15) := ⟨⟨by decide +kernel, by decide +kernel⟩, List.mem_of_getElem? (i := 707) (by decide +kernel), List.mem_of_getElem? (i := 779) (by decide +kernel), List.mem_of_getElem? (i := 780) (by decide +kernel)⟩
theorem lw_p9 : lw_okq (⟨"PeerNotesModel", "payOut", "(II)V"⟩, 15) := ⟨⟨by decide +kernel, by decide +kernel⟩, List.mem_of_getElem? (i := 707) (by decide +kernel), List.mem_of_getElem? (i := 786) (by decide +kernel), List.mem_of_getElem? (i := 787) (by decide +kernel)⟩
theorem lw_p10 : lw_okq (⟨"PeerNotesModel", "be", "(III)V"⟩, 15) := ⟨⟨by decide +kernel, by decide +kernel⟩, List.mem_of_getElem? (i := 707) (by decide +kernel), List.mem_of_getElem? (i := 800) (by decide +kernel), List.mem_of_getElem? (i := 801) (by decide +kernel)⟩
theorem lw_p11 : lw_okq (⟨"PeerNotesModel", "funds", "(IIII)I"⟩, 15) := ⟨⟨by decide +kernel, by decide +kernel⟩, List.mem_of_getElem? (i := 707) (by decide +kernel), List.mem_of_getElem? (i := 808) (by decide +kernel), List.mem_of_getElem? (i := 809) (by decide +kernel)⟩
theorem lw_p12 : lw_okq (⟨"PeerNotesModel", "isLoan", "(I)Z"⟩, 15) := ⟨⟨by decide +kernel, by decide +kernel⟩, List.mem_of_getElem? (i := 707) (by decide +kernel), List.mem_of_getElem? (i := 812) (by decide +kernel), List.mem_of_getElem? (i := 813) (by decide +kernel)⟩
theorem lw_p13 : lw_okq (⟨"PeerNotesModel", "of", "(II)I"⟩, 15) := ⟨⟨by decide +kernel, by decide +kernel⟩, List.mem_of_getElem? (i := 707) (by decide +kernel), List.mem_of_getElem? (i := 816) (by decide +kernel), List.mem_of_getElem? (i := 817) (by decide +kernel)⟩
theorem lw_p14 : lw_okq (⟨"PeerNotesModel", "missing", "(I)I"⟩, 15) := ⟨⟨by decide +kernel, by decide +kernel⟩, List.mem_of_getElem? (i := 707) (by decide +kernel), List.mem_of_getElem? (i := 820) (by decide +kernel), List.mem_of_getElem? (i := 821) (by decide +kernel)⟩
theorem lw_p15 : lw_okq (⟨"PeerNotesModel", "principals", "(II)I"⟩, 15) := ⟨⟨by decide +kernel, by decide +kernel⟩, List.mem_of_getElem? (i := 707) (by decide +kernel), List.mem_of_getElem? (i := 824) (by decide +kernel), List.mem_of_getElem? (i := 825) (by decide +kernel)⟩
def lw_privs_1 : List (MethodName × Nat) := [(⟨"PeerNotes$History", "dropOldest", "()V"⟩, 2), (⟨"PeerNotes$Payout", "clear", "()V"⟩, 3), (⟨"PeerNotes$Payout", "weighPrincipals", "(LPeerNotes$Market;IZZ)V"⟩, 3), (⟨"PeerNotes$Payout", "shareOut", "(I[I)V"⟩, 3), (⟨"PeerNotes$Payout", "shareByClass", "(LPeerNotes$Market;III)V"⟩, 3), (⟨"PeerNotesModel", "aside", "()V"⟩, 15), (⟨"PeerNotesModel", "acted", "(I)I"⟩, 15), (⟨"PeerNotesModel", "putBack", "()V"⟩, 15), (⟨"PeerNotesModel", "isInvestor", "(I)Z"⟩, 15), (⟨"PeerNotesModel", "payOut", "(II)V"⟩, 15), (⟨"PeerNotesModel", "be", "(III)V"⟩, 15), (⟨"PeerNotesModel", "funds", "(IIII)I"⟩, 15), (⟨"PeerNotesModel", "isLoan", "(I)Z"⟩, 15), (⟨"PeerNotesModel", "of", "(II)I"⟩, 15), (⟨"PeerNotesModel", "missing", "(I)I"⟩, 15), (⟨"PeerNotesModel", "principals", "(II)I"⟩, 15)]
theorem lw_r1 : ∀ q ∈ lw_privs_1, lw_okq q := List.forall_mem_cons.mpr ⟨lw_p0, List.forall_mem_cons.mpr ⟨lw_p1, List.forall_mem_cons.mpr ⟨lw_p2, List.forall_mem_cons.mpr ⟨lw_p3, List.forall_mem_cons.mpr ⟨lw_p4, List.forall_mem_cons.mpr ⟨lw_p5, List.forall_mem_cons.mpr ⟨lw_p6, List.forall_mem_cons.mpr ⟨lw_p7, List.forall_mem_cons.mpr ⟨lw_p8, List.forall_mem_cons.mpr ⟨lw_p9, List.forall_mem_cons.mpr ⟨lw_p10, List.forall_mem_cons.mpr ⟨lw_p11, List.forall_mem_cons.mpr ⟨lw_p12, List.forall_mem_cons.mpr ⟨lw_p13, List.forall_mem_cons.mpr ⟨lw_p14, List.forall_mem_cons.mpr ⟨lw_p15, fun _ h => absurd h List.not_mem_nil⟩⟩⟩⟩⟩⟩⟩⟩⟩⟩⟩⟩⟩⟩⟩⟩
theorem lw_p16 : lw_okq (⟨"PeerNotesModel", "ofNote", "(II)I"⟩, 15) := ⟨⟨by decide +kernel, by decide +kernel⟩, List.mem_of_getElem? (i := 707) (by decide +kernel), List.mem_of_getElem? (i := 828) (by decide +kernel), List.mem_of_getElem? (i := 829) (by decide +kernel)⟩
theorem lw_p17 : lw_okq (⟨"PeerNotesModel", "more", "(III)V"⟩, 15) := ⟨⟨by decide +kernel, by decide +kernel⟩, List.mem_of_getElem? (i := 707) (by decide +kernel), List.mem_of_getElem? (i := 839) (by decide +kernel), List.mem_of_getElem? (i := 840) (by decide +kernel)⟩
theorem lw_p18 : lw_okq (⟨"PeerNotesModel", "ends", "(II)V"⟩, 15) := ⟨⟨by decide +kernel, by decide +kernel⟩, List.mem_of_getElem? (i := 707) (by decide +kernel), List.mem_of_getElem? (i := 843) (by decide +kernel), List.mem_of_getElem? (i := 844) (by decide +kernel)⟩
theorem lw_p19 : lw_okq (⟨"PeerNotesModel", "canPay", "(II)Z"⟩, 15) := ⟨⟨by decide +kernel, by decide +kernel⟩, List.mem_of_getElem? (i := 707) (by decide +kernel), List.mem_of_getElem? (i := 852) (by decide +kernel), List.mem_of_getElem? (i := 853) (by decide +kernel)⟩
theorem lw_p20 : lw_okq (⟨"PeerNotesModel", "runs", "(I)Z"⟩, 15) := ⟨⟨by decide +kernel, by decide +kernel⟩, List.mem_of_getElem? (i := 707) (by decide +kernel), List.mem_of_getElem? (i := 856) (by decide +kernel), List.mem_of_getElem? (i := 857) (by decide +kernel)⟩
theorem lw_p21 : lw_okq (⟨"PeerNotesModel", "feeFor", "(II)I"⟩, 15) := ⟨⟨by decide +kernel, by decide +kernel⟩, List.mem_of_getElem? (i := 707) (by decide +kernel), List.mem_of_getElem? (i := 860) (by decide +kernel), List.mem_of_getElem? (i := 861) (by decide +kernel)⟩
theorem lw_p22 : lw_okq (⟨"PeerNotesModel", "splitBy", "(III)I"⟩, 15) := ⟨⟨by decide +kernel, by decide +kernel⟩, List.mem_of_getElem? (i := 707) (by decide +kernel), List.mem_of_getElem? (i := 868) (by decide +kernel), List.mem_of_getElem? (i := 869) (by decide +kernel)⟩
theorem lw_p23 : lw_okq (⟨"PeerNotesModel", "payInterest", "(II)V"⟩, 15) := ⟨⟨by decide +kernel, by decide +kernel⟩, List.mem_of_getElem? (i := 707) (by decide +kernel), List.mem_of_getElem? (i := 873) (by decide +kernel), List.mem_of_getElem? (i := 874) (by decide +kernel)⟩
theorem lw_p24 : lw_okq (⟨"PeerNotesModel", "weigh", "(II)I"⟩, 15) := ⟨⟨by decide +kernel, by decide +kernel⟩, List.mem_of_getElem? (i := 707) (by decide +kernel), List.mem_of_getElem? (i := 877) (by decide +kernel), List.mem_of_getElem? (i := 878) (by decide +kernel)⟩
theorem lw_p25 : lw_okq (⟨"PeerNotesModel", "share", "(II)V"⟩, 15) := ⟨⟨by decide +kernel, by decide +kernel⟩, List.mem_of_getElem? (i := 707) (by decide +kernel), List.mem_of_getElem? (i := 881) (by decide +kernel), List.mem_of_getElem? (i := 882) (by decide +kernel)⟩
theorem lw_p26 : lw_okq (⟨"PeerNotesModel", "payPrincipal", "(III)I"⟩, 15) := ⟨⟨by decide +kernel, by decide +kernel⟩, List.mem_of_getElem? (i := 707) (by decide +kernel), List.mem_of_getElem? (i := 885) (by decide +kernel), List.mem_of_getElem? (i := 886) (by decide +kernel)⟩
theorem lw_p27 : lw_okq (⟨"PeerNotesModel", "isNote", "(I)Z"⟩, 15) := ⟨⟨by decide +kernel, by decide +kernel⟩, List.mem_of_getElem? (i := 707) (by decide +kernel), List.mem_of_getElem? (i := 908) (by decide +kernel), List.mem_of_getElem? (i := 909) (by decide +kernel)⟩
theorem lw_p28 : lw_okq (⟨"PeerNotesModel", "month", "(I)V"⟩, 15) := ⟨⟨by decide +kernel, by decide +kernel⟩, List.mem_of_getElem? (i := 707) (by decide +kernel), List.mem_of_getElem? (i := 916) (by decide +kernel), List.mem_of_getElem? (i := 917) (by decide +kernel)⟩
theorem lw_p29 : lw_okq (⟨"PeerNotesModel", "inArrears", "()I"⟩, 15) := ⟨⟨by decide +kernel, by decide +kernel⟩, List.mem_of_getElem? (i := 707) (by decide +kernel), List.mem_of_getElem? (i := 920) (by decide +kernel), List.mem_of_getElem? (i := 921) (by decide +kernel)⟩
theorem lw_p30 : lw_okq (⟨"PeerNotesModel", "tell", "(I)V"⟩, 15) := ⟨⟨by decide +kernel, by decide +kernel⟩, List.mem_of_getElem? (i := 707) (by decide +kernel), List.mem_of_getElem? (i := 936) (by decide +kernel), List.mem_of_getElem? (i := 937) (by decide +kernel)⟩
theorem lw_p31 : lw_okq (⟨"PeerNotesModel", "digit", "(I)I"⟩, 15) := ⟨⟨by decide +kernel, by decide +kernel⟩, List.mem_of_getElem? (i := 707) (by decide +kernel), List.mem_of_getElem? (i := 940) (by decide +kernel), List.mem_of_getElem? (i := 941) (by decide +kernel)⟩
def lw_privs_2 : List (MethodName × Nat) := [(⟨"PeerNotesModel", "ofNote", "(II)I"⟩, 15), (⟨"PeerNotesModel", "more", "(III)V"⟩, 15), (⟨"PeerNotesModel", "ends", "(II)V"⟩, 15), (⟨"PeerNotesModel", "canPay", "(II)Z"⟩, 15), (⟨"PeerNotesModel", "runs", "(I)Z"⟩, 15), (⟨"PeerNotesModel", "feeFor", "(II)I"⟩, 15), (⟨"PeerNotesModel", "splitBy", "(III)I"⟩, 15), (⟨"PeerNotesModel", "payInterest", "(II)V"⟩, 15), (⟨"PeerNotesModel", "weigh", "(II)I"⟩, 15), (⟨"PeerNotesModel", "share", "(II)V"⟩, 15), (⟨"PeerNotesModel", "payPrincipal", "(III)I"⟩, 15), (⟨"PeerNotesModel", "isNote", "(I)Z"⟩, 15), (⟨"PeerNotesModel", "month", "(I)V"⟩, 15), (⟨"PeerNotesModel", "inArrears", "()I"⟩, 15), (⟨"PeerNotesModel", "tell", "(I)V"⟩, 15), (⟨"PeerNotesModel", "digit", "(I)I"⟩, 15)]
theorem lw_r2 : ∀ q ∈ lw_privs_2, lw_okq q := List.forall_mem_cons.mpr ⟨lw_p16, List.forall_mem_cons.mpr ⟨lw_p17, List.forall_mem_cons.mpr ⟨lw_p18, List.forall_mem_cons.mpr ⟨lw_p19, List.forall_mem_cons.mpr ⟨lw_p20, List.forall_mem_cons.mpr ⟨lw_p21, List.forall_mem_cons.mpr ⟨lw_p22, List.forall_mem_cons.mpr ⟨lw_p23, List.forall_mem_cons.mpr ⟨lw_p24, List.forall_mem_cons.mpr ⟨lw_p25, List.forall_mem_cons.mpr ⟨lw_p26, List.forall_mem_cons.mpr ⟨lw_p27, List.forall_mem_cons.mpr ⟨lw_p28, List.forall_mem_cons.mpr ⟨lw_p29, List.forall_mem_cons.mpr ⟨lw_p30, List.forall_mem_cons.mpr ⟨lw_p31, fun _ h => absurd h List.not_mem_nil⟩⟩⟩⟩⟩⟩⟩⟩⟩⟩⟩⟩⟩⟩⟩⟩
theorem lw_p32 : lw_okq (⟨"PeerNotesModel", "look", "()I"⟩, 15) := ⟨⟨by decide +kernel, by decide +kernel⟩, List.mem_of_getElem? (i := 707) (by decide +kernel), List.mem_of_getElem? (i := 944) (by decide +kernel), List.mem_of_getElem? (i := 945) (by decide +kernel)⟩
theorem lw_p33 : lw_okq (⟨"PeerNotesModel", "must", "(Z)V"⟩, 15) := ⟨⟨by decide +kernel, by decide +kernel⟩, List.mem_of_getElem? (i := 707) (by decide +kernel), List.mem_of_getElem? (i := 948) (by decide +kernel), List.mem_of_getElem? (i := 949) (by decide +kernel)⟩
theorem lw_p34 : lw_okq (⟨"PeerNotesModel", "held", "(II)I"⟩, 15) := ⟨⟨by decide +kernel, by decide +kernel⟩, List.mem_of_getElem? (i := 707) (by decide +kernel), List.mem_of_getElem? (i := 968) (by decide +kernel), List.mem_of_getElem? (i := 969) (by decide +kernel)⟩
theorem lw_p35 : lw_okq (⟨"PeerNotesModel", "notesOf", "(I)I"⟩, 15) := ⟨⟨by decide +kernel, by decide +kernel⟩, List.mem_of_getElem? (i := 707) (by decide +kernel), List.mem_of_getElem? (i := 976) (by decide +kernel), List.mem_of_getElem? (i := 977) (by decide +kernel)⟩
theorem lw_p36 : lw_okq (⟨"PeerNotesModel", "runningWith", "(I)I"⟩, 15) := ⟨⟨by decide +kernel, by decide +kernel⟩, List.mem_of_getElem? (i := 707) (by decide +kernel), List.mem_of_getElem? (i := 996) (by decide +kernel), List.mem_of_getElem? (i := 997) (by decide +kernel)⟩
theorem lw_p37 : lw_okq (⟨"PeerNotesModel", "inState", "(I)I"⟩, 15) := ⟨⟨by decide +kernel, by decide +kernel⟩, List.mem_of_getElem? (i := 707) (by decide +kernel), List.mem_of_getElem? (i := 1004) (by decide +kernel), List.mem_of_getElem? (i := 1005) (by decide +kernel)⟩
theorem lw_p38 : lw_okq (⟨"PeerNotesModel", "sumOf", "(I)I"⟩, 15) := ⟨⟨by decide +kernel, by decide +kernel⟩, List.mem_of_getElem? (i := 707) (by decide +kernel), List.mem_of_getElem? (i := 1008) (by decide +kernel), List.mem_of_getElem? (i := 1009) (by decide +kernel)⟩
theorem lw_p39 : lw_okq (⟨"PeerNotesModel", "losses", "()I"⟩, 15) := ⟨⟨by decide +kernel, by decide +kernel⟩, List.mem_of_getElem? (i := 707) (by decide +kernel), List.mem_of_getElem? (i := 1012) (by decide +kernel), List.mem_of_getElem? (i := 1013) (by decide +kernel)⟩
def lw_privs_3 : List (MethodName × Nat) := [(⟨"PeerNotesModel", "look", "()I"⟩, 15), (⟨"PeerNotesModel", "must", "(Z)V"⟩, 15), (⟨"PeerNotesModel", "held", "(II)I"⟩, 15), (⟨"PeerNotesModel", "notesOf", "(I)I"⟩, 15), (⟨"PeerNotesModel", "runningWith", "(I)I"⟩, 15), (⟨"PeerNotesModel", "inState", "(I)I"⟩, 15), (⟨"PeerNotesModel", "sumOf", "(I)I"⟩, 15), (⟨"PeerNotesModel", "losses", "()I"⟩, 15)]
theorem lw_r3 : ∀ q ∈ lw_privs_3, lw_okq q := List.forall_mem_cons.mpr ⟨lw_p32, List.forall_mem_cons.mpr ⟨lw_p33, List.forall_mem_cons.mpr ⟨lw_p34, List.forall_mem_cons.mpr ⟨lw_p35, List.forall_mem_cons.mpr ⟨lw_p36, List.forall_mem_cons.mpr ⟨lw_p37, List.forall_mem_cons.mpr ⟨lw_p38, List.forall_mem_cons.mpr ⟨lw_p39, fun _ h => absurd h List.not_mem_nil⟩⟩⟩⟩⟩⟩⟩⟩
def lw_privs : List (MethodName × Nat) := lw_privs_1 ++ (lw_privs_2 ++ (lw_privs_3))
def lw_tbl : List Cond := k2_sels lw_privs ++ tables_1
theorem lw_privs_ok : ∀ q ∈ lw_privs, lw_okq q := by
  show ∀ q ∈ lw_privs_1 ++ (lw_privs_2 ++ (lw_privs_3)), lw_okq q
  exact List.forall_mem_append.mpr ⟨lw_r1, List.forall_mem_append.mpr ⟨lw_r2, lw_r3⟩⟩
/-! ===== BEGIN words of one list among another's, by their places ===== -/
/-! ===== END ===== -/

/-! ===== BEGIN printed: names, fields, word lists, decode rows ===== -/
def RX0 : String := "PeerNotes$Funding"
def TX0 : u_T := fun k => match k with
  | 0 => ("PeerNotes$Funding", "investor", "I", false)
  | 1 => ("PeerNotes$Funding", "loan", "I", false)
  | 2 => ("PeerNotes$Funding", "kind", "I", false)
  | _ => ("PeerNotes$Funding", "coins", "I", false)
def tyX0 : Nat → FieldType := fun k => match k with
  | 0 => .int
  | 1 => .int
  | 2 => .int
  | _ => .int
abbrev wsX00 : List Cond := u_ws RX0 TX0 4
theorem nmX0 : ∀ a, a < 4 → ∀ b, b < 4 → a ≠ b → (TX0 a).2.1 ≠ (TX0 b).2.1 := by decide +kernel
theorem tyX0_ok : ∀ k, k < 4 → parseFieldDescriptor (TX0 k).2.2.1 = some (tyX0 k) := by decide +kernel
abbrev cX0_init : ByteArray := prog_2_method_1_code
def yX0_init : MethodName := ⟨RX0, "<init>", "()V"⟩
def RX1 : String := "PeerNotes$FundingText"
def TX1 : u_T := fun k => match k with
  | 0 => ("PeerNotes$FundingText", "signs", "[C", true)
  | 1 => ("PeerNotes$FundingText", "length", "I", false)
  | 2 => ("PeerNotes$FundingText", "fundings", "[LPeerNotes$Funding;", true)
  | _ => ("PeerNotes$FundingText", "fundingCount", "I", false)
def tyX1 : Nat → FieldType := fun k => match k with
  | 0 => .array .char
  | 1 => .int
  | 2 => .array (.object "PeerNotes$Funding")
  | _ => .int
abbrev wsX10 : List Cond := u_ws RX1 TX1 4
theorem nmX1 : ∀ a, a < 4 → ∀ b, b < 4 → a ≠ b → (TX1 a).2.1 ≠ (TX1 b).2.1 := by decide +kernel
theorem tyX1_ok : ∀ k, k < 4 → parseFieldDescriptor (TX1 k).2.2.1 = some (tyX1 k) := by decide +kernel
abbrev cX1_init : ByteArray := prog_3_method_1_code
def yX1_init : MethodName := ⟨RX1, "<init>", "()V"⟩
abbrev cX1_read : ByteArray := prog_3_method_2_code
def yX1_read : MethodName := ⟨RX1, "read", "()I"⟩
abbrev cX1_isAllowed : ByteArray := prog_3_method_3_code
def yX1_isAllowed : MethodName := ⟨RX1, "isAllowed", "(CI)Z"⟩
abbrev cX1_take : ByteArray := prog_3_method_4_code
def yX1_take : MethodName := ⟨RX1, "take", "(LPeerNotes$Funding;CI)V"⟩
def RX2 : String := "PeerNotes$History"
def TX2 : u_T := fun k => match k with
  | 0 => ("PeerNotes$History", "states", "[LPeerNotes$Market;", true)
  | _ => ("PeerNotes$History", "size", "I", false)
def tyX2 : Nat → FieldType := fun k => match k with
  | 0 => .array (.object "PeerNotes$Market")
  | _ => .int
abbrev wsX20 : List Cond := u_ws RX2 TX2 2
theorem nmX2 : ∀ a, a < 2 → ∀ b, b < 2 → a ≠ b → (TX2 a).2.1 ≠ (TX2 b).2.1 := by decide +kernel
theorem tyX2_ok : ∀ k, k < 2 → parseFieldDescriptor (TX2 k).2.2.1 = some (tyX2 k) := by decide +kernel
abbrev cX2_init : ByteArray := prog_4_method_1_code
def yX2_init : MethodName := ⟨RX2, "<init>", "()V"⟩
abbrev cX2_record : ByteArray := prog_4_method_2_code
def yX2_record : MethodName := ⟨RX2, "record", "(LPeerNotes$Market;)V"⟩
abbrev cX2_takeLatest : ByteArray := prog_4_method_3_code
def yX2_takeLatest : MethodName := ⟨RX2, "takeLatest", "(LPeerNotes$Market;)V"⟩
abbrev cX2_dropOldest : ByteArray := prog_4_method_4_code
def yX2_dropOldest : MethodName := ⟨RX2, "dropOldest", "()V"⟩
def RX3 : String := "PeerNotes$Investor"
def TX3 : u_T := fun k => match k with
  | 0 => ("PeerNotes$Investor", "cash", "I", false)
  | 1 => ("PeerNotes$Investor", "interest", "I", false)
  | _ => ("PeerNotes$Investor", "losses", "I", false)
def tyX3 : Nat → FieldType := fun k => match k with
  | 0 => .int
  | 1 => .int
  | _ => .int
abbrev wsX30 : List Cond := u_ws RX3 TX3 3
theorem nmX3 : ∀ a, a < 3 → ∀ b, b < 3 → a ≠ b → (TX3 a).2.1 ≠ (TX3 b).2.1 := by decide +kernel
theorem tyX3_ok : ∀ k, k < 3 → parseFieldDescriptor (TX3 k).2.2.1 = some (tyX3 k) := by decide +kernel
abbrev cX3_init : ByteArray := prog_5_method_1_code
def yX3_init : MethodName := ⟨RX3, "<init>", "()V"⟩
abbrev cX3_open : ByteArray := prog_5_method_2_code
def yX3_open : MethodName := ⟨RX3, "open", "(I)V"⟩
abbrev cX3_copyFrom : ByteArray := prog_5_method_3_code
def yX3_copyFrom : MethodName := ⟨RX3, "copyFrom", "(LPeerNotes$Investor;)V"⟩
def RX4 : String := "PeerNotes$Loan"
def TX4 : u_T := fun k => match k with
  | 0 => ("PeerNotes$Loan", "state", "I", false)
  | 1 => ("PeerNotes$Loan", "amount", "I", false)
  | 2 => ("PeerNotes$Loan", "rate", "I", false)
  | 3 => ("PeerNotes$Loan", "months", "I", false)
  | 4 => ("PeerNotes$Loan", "principal", "I", false)
  | 5 => ("PeerNotes$Loan", "instalment", "I", false)
  | 6 => ("PeerNotes$Loan", "interestDue", "I", false)
  | 7 => ("PeerNotes$Loan", "principalDue", "I", false)
  | 8 => ("PeerNotes$Loan", "arrears", "I", false)
  | 9 => ("PeerNotes$Loan", "servicer", "I", false)
  | _ => ("PeerNotes$Loan", "ordered", "I", false)
def tyX4 : Nat → FieldType := fun k => match k with
  | 0 => .int
  | 1 => .int
  | 2 => .int
  | 3 => .int
  | 4 => .int
  | 5 => .int
  | 6 => .int
  | 7 => .int
  | 8 => .int
  | 9 => .int
  | _ => .int
abbrev wsX40 : List Cond := u_ws RX4 TX4 11
theorem nmX4 : ∀ a, a < 11 → ∀ b, b < 11 → a ≠ b → (TX4 a).2.1 ≠ (TX4 b).2.1 := by decide +kernel
theorem tyX4_ok : ∀ k, k < 11 → parseFieldDescriptor (TX4 k).2.2.1 = some (tyX4 k) := by decide +kernel
abbrev cX4_init : ByteArray := prog_6_method_1_code
def yX4_init : MethodName := ⟨RX4, "<init>", "()V"⟩
abbrev cX4_open : ByteArray := prog_6_method_2_code
def yX4_open : MethodName := ⟨RX4, "open", "(III)V"⟩
abbrev cX4_start : ByteArray := prog_6_method_3_code
def yX4_start : MethodName := ⟨RX4, "start", "()V"⟩
abbrev cX4_end : ByteArray := prog_6_method_4_code
def yX4_end : MethodName := ⟨RX4, "end", "(I)V"⟩
abbrev cX4_passMonth : ByteArray := prog_6_method_5_code
def yX4_passMonth : MethodName := ⟨RX4, "passMonth", "()V"⟩
abbrev cX4_takePayment : ByteArray := prog_6_method_6_code
def yX4_takePayment : MethodName := ⟨RX4, "takePayment", "(II)V"⟩
abbrev cX4_copyFrom : ByteArray := prog_6_method_7_code
def yX4_copyFrom : MethodName := ⟨RX4, "copyFrom", "(LPeerNotes$Loan;)V"⟩
def RX5 : String := "PeerNotes$Market"
def TX5 : u_T := fun k => match k with
  | 0 => ("PeerNotes$Market", "investors", "[LPeerNotes$Investor;", true)
  | 1 => ("PeerNotes$Market", "loans", "[LPeerNotes$Loan;", true)
  | 2 => ("PeerNotes$Market", "notes", "[LPeerNotes$Note;", true)
  | 3 => ("PeerNotes$Market", "earned", "[I", true)
  | 4 => ("PeerNotes$Market", "investorCount", "I", false)
  | 5 => ("PeerNotes$Market", "loanCount", "I", false)
  | 6 => ("PeerNotes$Market", "noteCount", "I", false)
  | 7 => ("PeerNotes$Market", "months", "I", false)
  | 8 => ("PeerNotes$Market", "pool", "I", false)
  | _ => ("PeerNotes$Market", "share", "I", false)
def tyX5 : Nat → FieldType := fun k => match k with
  | 0 => .array (.object "PeerNotes$Investor")
  | 1 => .array (.object "PeerNotes$Loan")
  | 2 => .array (.object "PeerNotes$Note")
  | 3 => .array .int
  | 4 => .int
  | 5 => .int
  | 6 => .int
  | 7 => .int
  | 8 => .int
  | _ => .int
abbrev wsX50 : List Cond := u_ws RX5 TX5 10
theorem nmX5 : ∀ a, a < 10 → ∀ b, b < 10 → a ≠ b → (TX5 a).2.1 ≠ (TX5 b).2.1 := by decide +kernel
theorem tyX5_ok : ∀ k, k < 10 → parseFieldDescriptor (TX5 k).2.2.1 = some (tyX5 k) := by decide +kernel
abbrev cX5_init : ByteArray := prog_7_method_1_code
def yX5_init : MethodName := ⟨RX5, "<init>", "()V"⟩
abbrev cX5_copyFrom : ByteArray := prog_7_method_2_code
def yX5_copyFrom : MethodName := ⟨RX5, "copyFrom", "(LPeerNotes$Market;)V"⟩
abbrev cX5_hasInvestor : ByteArray := prog_7_method_3_code
def yX5_hasInvestor : MethodName := ⟨RX5, "hasInvestor", "(I)Z"⟩
abbrev cX5_hasLoan : ByteArray := prog_7_method_4_code
def yX5_hasLoan : MethodName := ⟨RX5, "hasLoan", "(I)Z"⟩
abbrev cX5_hasNote : ByteArray := prog_7_method_5_code
def yX5_hasNote : MethodName := ⟨RX5, "hasNote", "(I)Z"⟩
abbrev cX5_runs : ByteArray := prog_7_method_6_code
def yX5_runs : MethodName := ⟨RX5, "runs", "(I)Z"⟩
abbrev cX5_cashOf : ByteArray := prog_7_method_7_code
def yX5_cashOf : MethodName := ⟨RX5, "cashOf", "(I)I"⟩
abbrev cX5_give : ByteArray := prog_7_method_8_code
def yX5_give : MethodName := ⟨RX5, "give", "(II)V"⟩
abbrev cX5_fundingError : ByteArray := prog_7_method_9_code
def yX5_fundingError : MethodName := ⟨RX5, "fundingError", "(III)I"⟩
abbrev cX5_addNote : ByteArray := prog_7_method_10_code
def yX5_addNote : MethodName := ⟨RX5, "addNote", "(IIII)V"⟩
abbrev cX5_takePayment : ByteArray := prog_7_method_11_code
def yX5_takePayment : MethodName := ⟨RX5, "takePayment", "(ILPeerNotes$Parts;)V"⟩
abbrev cX5_writeOff : ByteArray := prog_7_method_12_code
def yX5_writeOff : MethodName := ⟨RX5, "writeOff", "(I)I"⟩
abbrev cX5_passMonth : ByteArray := prog_7_method_13_code
def yX5_passMonth : MethodName := ⟨RX5, "passMonth", "()V"⟩
abbrev cX5_missing : ByteArray := prog_7_method_14_code
def yX5_missing : MethodName := ⟨RX5, "missing", "(I)I"⟩
abbrev cX5_principals : ByteArray := prog_7_method_15_code
def yX5_principals : MethodName := ⟨RX5, "principals", "(II)I"⟩
abbrev cX5_notesFor : ByteArray := prog_7_method_16_code
def yX5_notesFor : MethodName := ⟨RX5, "notesFor", "(I)I"⟩
abbrev cX5_principalsOf : ByteArray := prog_7_method_17_code
def yX5_principalsOf : MethodName := ⟨RX5, "principalsOf", "(I)I"⟩
abbrev cX5_liveNotesOf : ByteArray := prog_7_method_18_code
def yX5_liveNotesOf : MethodName := ⟨RX5, "liveNotesOf", "(I)I"⟩
abbrev cX5_loansOf : ByteArray := prog_7_method_19_code
def yX5_loansOf : MethodName := ⟨RX5, "loansOf", "(I)I"⟩
abbrev cX5_loansInState : ByteArray := prog_7_method_20_code
def yX5_loansInState : MethodName := ⟨RX5, "loansInState", "(I)I"⟩
abbrev cX5_loansServedBy : ByteArray := prog_7_method_21_code
def yX5_loansServedBy : MethodName := ⟨RX5, "loansServedBy", "(I)I"⟩
abbrev cX5_loansInArrears : ByteArray := prog_7_method_22_code
def yX5_loansInArrears : MethodName := ⟨RX5, "loansInArrears", "()I"⟩
abbrev cX5_ordersOfSwitches : ByteArray := prog_7_method_23_code
def yX5_ordersOfSwitches : MethodName := ⟨RX5, "ordersOfSwitches", "()I"⟩
abbrev cX5_allPrincipals : ByteArray := prog_7_method_24_code
def yX5_allPrincipals : MethodName := ⟨RX5, "allPrincipals", "()I"⟩
abbrev cX5_allInterestDue : ByteArray := prog_7_method_25_code
def yX5_allInterestDue : MethodName := ⟨RX5, "allInterestDue", "()I"⟩
abbrev cX5_allLosses : ByteArray := prog_7_method_26_code
def yX5_allLosses : MethodName := ⟨RX5, "allLosses", "()I"⟩
def RX6 : String := "PeerNotes$Note"
def TX6 : u_T := fun k => match k with
  | 0 => ("PeerNotes$Note", "investor", "I", false)
  | 1 => ("PeerNotes$Note", "loan", "I", false)
  | 2 => ("PeerNotes$Note", "kind", "I", false)
  | 3 => ("PeerNotes$Note", "principal", "I", false)
  | 4 => ("PeerNotes$Note", "funded", "I", false)
  | 5 => ("PeerNotes$Note", "interest", "I", false)
  | _ => ("PeerNotes$Note", "loss", "I", false)
def tyX6 : Nat → FieldType := fun k => match k with
  | 0 => .int
  | 1 => .int
  | 2 => .int
  | 3 => .int
  | 4 => .int
  | 5 => .int
  | _ => .int
abbrev wsX60 : List Cond := u_ws RX6 TX6 7
theorem nmX6 : ∀ a, a < 7 → ∀ b, b < 7 → a ≠ b → (TX6 a).2.1 ≠ (TX6 b).2.1 := by decide +kernel
theorem tyX6_ok : ∀ k, k < 7 → parseFieldDescriptor (TX6 k).2.2.1 = some (tyX6 k) := by decide +kernel
abbrev cX6_init : ByteArray := prog_8_method_1_code
def yX6_init : MethodName := ⟨RX6, "<init>", "()V"⟩
abbrev cX6_open : ByteArray := prog_8_method_2_code
def yX6_open : MethodName := ⟨RX6, "open", "(IIII)V"⟩
abbrev cX6_copyFrom : ByteArray := prog_8_method_3_code
def yX6_copyFrom : MethodName := ⟨RX6, "copyFrom", "(LPeerNotes$Note;)V"⟩
def RX7 : String := "PeerNotes$Parts"
def TX7 : u_T := fun k => match k with
  | 0 => ("PeerNotes$Parts", "fee", "I", false)
  | 1 => ("PeerNotes$Parts", "interest", "I", false)
  | 2 => ("PeerNotes$Parts", "toPool", "I", false)
  | 3 => ("PeerNotes$Parts", "principal", "I", false)
  | 4 => ("PeerNotes$Parts", "toSeniors", "I", false)
  | _ => ("PeerNotes$Parts", "toJuniors", "I", false)
def tyX7 : Nat → FieldType := fun k => match k with
  | 0 => .int
  | 1 => .int
  | 2 => .int
  | 3 => .int
  | 4 => .int
  | _ => .int
abbrev wsX70 : List Cond := u_ws RX7 TX7 6
theorem nmX7 : ∀ a, a < 6 → ∀ b, b < 6 → a ≠ b → (TX7 a).2.1 ≠ (TX7 b).2.1 := by decide +kernel
theorem tyX7_ok : ∀ k, k < 6 → parseFieldDescriptor (TX7 k).2.2.1 = some (tyX7 k) := by decide +kernel
abbrev cX7_init : ByteArray := prog_9_method_1_code
def yX7_init : MethodName := ⟨RX7, "<init>", "()V"⟩
abbrev cX7_areOf : ByteArray := prog_9_method_2_code
def yX7_areOf : MethodName := ⟨RX7, "areOf", "(LPeerNotes$Market;II)Z"⟩
def RX8 : String := "PeerNotes$Payout"
def TX8 : u_T := fun k => match k with
  | 0 => ("PeerNotes$Payout", "interest", "[I", true)
  | 1 => ("PeerNotes$Payout", "principal", "[I", true)
  | _ => ("PeerNotes$Payout", "weights", "[I", true)
def tyX8 : Nat → FieldType := fun k => match k with
  | 0 => .array .int
  | 1 => .array .int
  | _ => .array .int
abbrev wsX80 : List Cond := u_ws RX8 TX8 3
theorem nmX8 : ∀ a, a < 3 → ∀ b, b < 3 → a ≠ b → (TX8 a).2.1 ≠ (TX8 b).2.1 := by decide +kernel
theorem tyX8_ok : ∀ k, k < 3 → parseFieldDescriptor (TX8 k).2.2.1 = some (tyX8 k) := by decide +kernel
abbrev cX8_init : ByteArray := prog_10_method_1_code
def yX8_init : MethodName := ⟨RX8, "<init>", "()V"⟩
abbrev cX8_ofGivingUp : ByteArray := prog_10_method_2_code
def yX8_ofGivingUp : MethodName := ⟨RX8, "ofGivingUp", "(LPeerNotes$Market;I)V"⟩
abbrev cX8_ofPayment : ByteArray := prog_10_method_3_code
def yX8_ofPayment : MethodName := ⟨RX8, "ofPayment", "(LPeerNotes$Market;ILPeerNotes$Parts;)V"⟩
abbrev cX8_ofSale : ByteArray := prog_10_method_4_code
def yX8_ofSale : MethodName := ⟨RX8, "ofSale", "(LPeerNotes$Market;II)I"⟩
abbrev cX8_fits : ByteArray := prog_10_method_5_code
def yX8_fits : MethodName := ⟨RX8, "fits", "(LPeerNotes$Market;)Z"⟩
abbrev cX8_carryOut : ByteArray := prog_10_method_6_code
def yX8_carryOut : MethodName := ⟨RX8, "carryOut", "(LPeerNotes$Market;)V"⟩
abbrev cX8_clear : ByteArray := prog_10_method_7_code
def yX8_clear : MethodName := ⟨RX8, "clear", "()V"⟩
abbrev cX8_shareByClass : ByteArray := prog_10_method_8_code
def yX8_shareByClass : MethodName := ⟨RX8, "shareByClass", "(LPeerNotes$Market;III)V"⟩
abbrev cX8_weighPrincipals : ByteArray := prog_10_method_9_code
def yX8_weighPrincipals : MethodName := ⟨RX8, "weighPrincipals", "(LPeerNotes$Market;IZZ)V"⟩
abbrev cX8_shareOut : ByteArray := prog_10_method_10_code
def yX8_shareOut : MethodName := ⟨RX8, "shareOut", "(I[I)V"⟩
def RX9 : String := "PeerNotes"
def TX9 : u_T := fun k => match k with
  | 0 => ("PeerNotes", "market", "LPeerNotes$Market;", true)
  | 1 => ("PeerNotes", "before", "LPeerNotes$Market;", true)
  | 2 => ("PeerNotes", "kept", "LPeerNotes$Market;", true)
  | 3 => ("PeerNotes", "hasKept", "Z", false)
  | 4 => ("PeerNotes", "history", "LPeerNotes$History;", true)
  | 5 => ("PeerNotes", "text", "LPeerNotes$FundingText;", true)
  | 6 => ("PeerNotes", "parts", "LPeerNotes$Parts;", true)
  | _ => ("PeerNotes", "payout", "LPeerNotes$Payout;", true)
def tyX9 : Nat → FieldType := fun k => match k with
  | 0 => .object "PeerNotes$Market"
  | 1 => .object "PeerNotes$Market"
  | 2 => .object "PeerNotes$Market"
  | 3 => .boolean
  | 4 => .object "PeerNotes$History"
  | 5 => .object "PeerNotes$FundingText"
  | 6 => .object "PeerNotes$Parts"
  | _ => .object "PeerNotes$Payout"
abbrev wsX90 : List Cond := u_ws RX9 TX9 8
theorem nmX9 : ∀ a, a < 8 → ∀ b, b < 8 → a ≠ b → (TX9 a).2.1 ≠ (TX9 b).2.1 := by decide +kernel
theorem tyX9_ok : ∀ k, k < 8 → parseFieldDescriptor (TX9 k).2.2.1 = some (tyX9 k) := by decide +kernel
abbrev cX9_init : ByteArray := prog_1_method_1_code
def yX9_init : MethodName := ⟨RX9, "<init>", "()V"⟩
abbrev cX9_addInvestor : ByteArray := prog_1_method_2_code
def yX9_addInvestor : MethodName := ⟨RX9, "addInvestor", "(I)I"⟩
abbrev cX9_deposit : ByteArray := prog_1_method_3_code
def yX9_deposit : MethodName := ⟨RX9, "deposit", "(II)I"⟩
abbrev cX9_setPoolShare : ByteArray := prog_1_method_4_code
def yX9_setPoolShare : MethodName := ⟨RX9, "setPoolShare", "(I)I"⟩
abbrev cX9_openLoan : ByteArray := prog_1_method_5_code
def yX9_openLoan : MethodName := ⟨RX9, "openLoan", "(III)I"⟩
abbrev cX9_fund : ByteArray := prog_1_method_6_code
def yX9_fund : MethodName := ⟨RX9, "fund", "(IIZI)I"⟩
abbrev cX9_giveUp : ByteArray := prog_1_method_7_code
def yX9_giveUp : MethodName := ⟨RX9, "giveUp", "(I)I"⟩
abbrev cX9_pay : ByteArray := prog_1_method_8_code
def yX9_pay : MethodName := ⟨RX9, "pay", "(II)I"⟩
abbrev cX9_cure : ByteArray := prog_1_method_9_code
def yX9_cure : MethodName := ⟨RX9, "cure", "(II)I"⟩
abbrev cX9_sell : ByteArray := prog_1_method_10_code
def yX9_sell : MethodName := ⟨RX9, "sell", "(II)I"⟩
abbrev cX9_switchServicer : ByteArray := prog_1_method_11_code
def yX9_switchServicer : MethodName := ⟨RX9, "switchServicer", "(II)I"⟩
abbrev cX9_sellNote : ByteArray := prog_1_method_12_code
def yX9_sellNote : MethodName := ⟨RX9, "sellNote", "(III)I"⟩
abbrev cX9_pass : ByteArray := prog_1_method_13_code
def yX9_pass : MethodName := ⟨RX9, "pass", "(I)I"⟩
abbrev cX9_type : ByteArray := prog_1_method_14_code
def yX9_type : MethodName := ⟨RX9, "type", "(C)I"⟩
abbrev cX9_clearText : ByteArray := prog_1_method_15_code
def yX9_clearText : MethodName := ⟨RX9, "clearText", "()I"⟩
abbrev cX9_readFundings : ByteArray := prog_1_method_16_code
def yX9_readFundings : MethodName := ⟨RX9, "readFundings", "()I"⟩
abbrev cX9_undo : ByteArray := prog_1_method_17_code
def yX9_undo : MethodName := ⟨RX9, "undo", "()I"⟩
abbrev cX9_keep : ByteArray := prog_1_method_18_code
def yX9_keep : MethodName := ⟨RX9, "keep", "()I"⟩
abbrev cX9_restore : ByteArray := prog_1_method_19_code
def yX9_restore : MethodName := ⟨RX9, "restore", "()I"⟩
abbrev cX9_investor : ByteArray := prog_1_method_20_code
def yX9_investor : MethodName := ⟨RX9, "investor", "(II)I"⟩
abbrev cX9_loan : ByteArray := prog_1_method_21_code
def yX9_loan : MethodName := ⟨RX9, "loan", "(II)I"⟩
abbrev cX9_note : ByteArray := prog_1_method_22_code
def yX9_note : MethodName := ⟨RX9, "note", "(II)I"⟩
abbrev cX9_split : ByteArray := prog_1_method_23_code
def yX9_split : MethodName := ⟨RX9, "split", "(III)I"⟩
abbrev cX9_toRepay : ByteArray := prog_1_method_24_code
def yX9_toRepay : MethodName := ⟨RX9, "toRepay", "(I)I"⟩
abbrev cX9_servicer : ByteArray := prog_1_method_25_code
def yX9_servicer : MethodName := ⟨RX9, "servicer", "(II)I"⟩
abbrev cX9_count : ByteArray := prog_1_method_26_code
def yX9_count : MethodName := ⟨RX9, "count", "(I)I"⟩
abbrev cX9_isServicer : ByteArray := prog_1_method_27_code
def yX9_isServicer : MethodName := ⟨RX9, "isServicer", "(I)Z"⟩
abbrev cX9_isLoanMonths : ByteArray := prog_1_method_28_code
def yX9_isLoanMonths : MethodName := ⟨RX9, "isLoanMonths", "(I)Z"⟩
abbrev cX9_isPayment : ByteArray := prog_1_method_29_code
def yX9_isPayment : MethodName := ⟨RX9, "isPayment", "(I)Z"⟩
abbrev cX9_isPrice : ByteArray := prog_1_method_30_code
def yX9_isPrice : MethodName := ⟨RX9, "isPrice", "(I)Z"⟩
abbrev cX9_feeOf : ByteArray := prog_1_method_31_code
def yX9_feeOf : MethodName := ⟨RX9, "feeOf", "(I)I"⟩
abbrev cX9_dividedUp : ByteArray := prog_1_method_32_code
def yX9_dividedUp : MethodName := ⟨RX9, "dividedUp", "(II)I"⟩
def RX10 : String := "PeerNotesModel"
def TX10 : u_T := fun k => match k with
  | 0 => ("PeerNotesModel", "thrown", "I", false)
  | 1 => ("PeerNotesModel", "now", "[I", true)
  | 2 => ("PeerNotesModel", "put", "[I", true)
  | 3 => ("PeerNotesModel", "kept", "[I", true)
  | 4 => ("PeerNotesModel", "isKept", "Z", false)
  | 5 => ("PeerNotesModel", "was", "[I", true)
  | 6 => ("PeerNotesModel", "acts", "I", false)
  | 7 => ("PeerNotesModel", "text", "[I", true)
  | 8 => ("PeerNotesModel", "typed", "I", false)
  | 9 => ("PeerNotesModel", "isOver", "Z", false)
  | 10 => ("PeerNotesModel", "weight", "[I", true)
  | 11 => ("PeerNotesModel", "gets", "[I", true)
  | 12 => ("PeerNotesModel", "at", "I", false)
  | 13 => ("PeerNotesModel", "isWrong", "Z", false)
  | _ => ("PeerNotesModel", "told", "[I", true)
def tyX10 : Nat → FieldType := fun k => match k with
  | 0 => .int
  | 1 => .array .int
  | 2 => .array .int
  | 3 => .array .int
  | 4 => .boolean
  | 5 => .array .int
  | 6 => .int
  | 7 => .array .int
  | 8 => .int
  | 9 => .boolean
  | 10 => .array .int
  | 11 => .array .int
  | 12 => .int
  | 13 => .boolean
  | _ => .array .int
abbrev wsX100 : List Cond := u_ws RX10 TX10 15
theorem nmX10 : ∀ a, a < 15 → ∀ b, b < 15 → a ≠ b → (TX10 a).2.1 ≠ (TX10 b).2.1 := by decide +kernel
theorem tyX10_ok : ∀ k, k < 15 → parseFieldDescriptor (TX10 k).2.2.1 = some (tyX10 k) := by decide +kernel
abbrev cX10_in : ByteArray := prog_12_method_2_code
def yX10_in : MethodName := ⟨RX10, "in", "(III)Z"⟩
abbrev cX10_init : ByteArray := prog_12_method_3_code
def yX10_init : MethodName := ⟨RX10, "<init>", "()V"⟩
abbrev cX10_of : ByteArray := prog_12_method_4_code
def yX10_of : MethodName := ⟨RX10, "of", "(II)I"⟩
abbrev cX10_be : ByteArray := prog_12_method_5_code
def yX10_be : MethodName := ⟨RX10, "be", "(III)V"⟩
abbrev cX10_ofNote : ByteArray := prog_12_method_6_code
def yX10_ofNote : MethodName := ⟨RX10, "ofNote", "(II)I"⟩
abbrev cX10_more : ByteArray := prog_12_method_7_code
def yX10_more : MethodName := ⟨RX10, "more", "(III)V"⟩
abbrev cX10_isInvestor : ByteArray := prog_12_method_8_code
def yX10_isInvestor : MethodName := ⟨RX10, "isInvestor", "(I)Z"⟩
abbrev cX10_isLoan : ByteArray := prog_12_method_9_code
def yX10_isLoan : MethodName := ⟨RX10, "isLoan", "(I)Z"⟩
abbrev cX10_isNote : ByteArray := prog_12_method_10_code
def yX10_isNote : MethodName := ⟨RX10, "isNote", "(I)Z"⟩
abbrev cX10_isServicer : ByteArray := prog_12_method_11_code
def yX10_isServicer : MethodName := ⟨RX10, "isServicer", "(I)Z"⟩
abbrev cX10_runs : ByteArray := prog_12_method_12_code
def yX10_runs : MethodName := ⟨RX10, "runs", "(I)Z"⟩
abbrev cX10_feeOf : ByteArray := prog_12_method_13_code
def yX10_feeOf : MethodName := ⟨RX10, "feeOf", "(I)I"⟩
abbrev cX10_aside : ByteArray := prog_12_method_14_code
def yX10_aside : MethodName := ⟨RX10, "aside", "()V"⟩
abbrev cX10_putBack : ByteArray := prog_12_method_15_code
def yX10_putBack : MethodName := ⟨RX10, "putBack", "()V"⟩
abbrev cX10_acted : ByteArray := prog_12_method_16_code
def yX10_acted : MethodName := ⟨RX10, "acted", "(I)I"⟩
abbrev cX10_payOut : ByteArray := prog_12_method_17_code
def yX10_payOut : MethodName := ⟨RX10, "payOut", "(II)V"⟩
abbrev cX10_addInvestor : ByteArray := prog_12_method_18_code
def yX10_addInvestor : MethodName := ⟨RX10, "addInvestor", "(I)I"⟩
abbrev cX10_deposit : ByteArray := prog_12_method_19_code
def yX10_deposit : MethodName := ⟨RX10, "deposit", "(II)I"⟩
abbrev cX10_setPoolShare : ByteArray := prog_12_method_20_code
def yX10_setPoolShare : MethodName := ⟨RX10, "setPoolShare", "(I)I"⟩
abbrev cX10_openLoan : ByteArray := prog_12_method_21_code
def yX10_openLoan : MethodName := ⟨RX10, "openLoan", "(III)I"⟩
abbrev cX10_principals : ByteArray := prog_12_method_22_code
def yX10_principals : MethodName := ⟨RX10, "principals", "(II)I"⟩
abbrev cX10_missing : ByteArray := prog_12_method_23_code
def yX10_missing : MethodName := ⟨RX10, "missing", "(I)I"⟩
abbrev cX10_upwards : ByteArray := prog_12_method_24_code
def yX10_upwards : MethodName := ⟨RX10, "upwards", "(II)I"⟩
abbrev cX10_funds : ByteArray := prog_12_method_25_code
def yX10_funds : MethodName := ⟨RX10, "funds", "(IIII)I"⟩
abbrev cX10_fund : ByteArray := prog_12_method_26_code
def yX10_fund : MethodName := ⟨RX10, "fund", "(IIZI)I"⟩
abbrev cX10_ends : ByteArray := prog_12_method_27_code
def yX10_ends : MethodName := ⟨RX10, "ends", "(II)V"⟩
abbrev cX10_giveUp : ByteArray := prog_12_method_28_code
def yX10_giveUp : MethodName := ⟨RX10, "giveUp", "(I)I"⟩
abbrev cX10_weigh : ByteArray := prog_12_method_29_code
def yX10_weigh : MethodName := ⟨RX10, "weigh", "(II)I"⟩
abbrev cX10_share : ByteArray := prog_12_method_30_code
def yX10_share : MethodName := ⟨RX10, "share", "(II)V"⟩
abbrev cX10_payInterest : ByteArray := prog_12_method_31_code
def yX10_payInterest : MethodName := ⟨RX10, "payInterest", "(II)V"⟩
abbrev cX10_payPrincipal : ByteArray := prog_12_method_32_code
def yX10_payPrincipal : MethodName := ⟨RX10, "payPrincipal", "(III)I"⟩
abbrev cX10_feeFor : ByteArray := prog_12_method_33_code
def yX10_feeFor : MethodName := ⟨RX10, "feeFor", "(II)I"⟩
abbrev cX10_canPay : ByteArray := prog_12_method_34_code
def yX10_canPay : MethodName := ⟨RX10, "canPay", "(II)Z"⟩
abbrev cX10_splitBy : ByteArray := prog_12_method_35_code
def yX10_splitBy : MethodName := ⟨RX10, "splitBy", "(III)I"⟩
abbrev cX10_pay : ByteArray := prog_12_method_36_code
def yX10_pay : MethodName := ⟨RX10, "pay", "(II)I"⟩
abbrev cX10_cure : ByteArray := prog_12_method_37_code
def yX10_cure : MethodName := ⟨RX10, "cure", "(II)I"⟩
abbrev cX10_sell : ByteArray := prog_12_method_38_code
def yX10_sell : MethodName := ⟨RX10, "sell", "(II)I"⟩
abbrev cX10_switchServicer : ByteArray := prog_12_method_39_code
def yX10_switchServicer : MethodName := ⟨RX10, "switchServicer", "(II)I"⟩
abbrev cX10_sellNote : ByteArray := prog_12_method_40_code
def yX10_sellNote : MethodName := ⟨RX10, "sellNote", "(III)I"⟩
abbrev cX10_inArrears : ByteArray := prog_12_method_41_code
def yX10_inArrears : MethodName := ⟨RX10, "inArrears", "()I"⟩
abbrev cX10_month : ByteArray := prog_12_method_42_code
def yX10_month : MethodName := ⟨RX10, "month", "(I)V"⟩
abbrev cX10_pass : ByteArray := prog_12_method_43_code
def yX10_pass : MethodName := ⟨RX10, "pass", "(I)I"⟩
abbrev cX10_type : ByteArray := prog_12_method_44_code
def yX10_type : MethodName := ⟨RX10, "type", "(C)I"⟩
abbrev cX10_clearText : ByteArray := prog_12_method_45_code
def yX10_clearText : MethodName := ⟨RX10, "clearText", "()I"⟩
abbrev cX10_look : ByteArray := prog_12_method_46_code
def yX10_look : MethodName := ⟨RX10, "look", "()I"⟩
abbrev cX10_must : ByteArray := prog_12_method_47_code
def yX10_must : MethodName := ⟨RX10, "must", "(Z)V"⟩
abbrev cX10_digit : ByteArray := prog_12_method_48_code
def yX10_digit : MethodName := ⟨RX10, "digit", "(I)I"⟩
abbrev cX10_tell : ByteArray := prog_12_method_49_code
def yX10_tell : MethodName := ⟨RX10, "tell", "(I)V"⟩
abbrev cX10_readFundings : ByteArray := prog_12_method_50_code
def yX10_readFundings : MethodName := ⟨RX10, "readFundings", "()I"⟩
abbrev cX10_undo : ByteArray := prog_12_method_51_code
def yX10_undo : MethodName := ⟨RX10, "undo", "()I"⟩
abbrev cX10_keep : ByteArray := prog_12_method_52_code
def yX10_keep : MethodName := ⟨RX10, "keep", "()I"⟩
abbrev cX10_restore : ByteArray := prog_12_method_53_code
def yX10_restore : MethodName := ⟨RX10, "restore", "()I"⟩
abbrev cX10_held : ByteArray := prog_12_method_54_code
def yX10_held : MethodName := ⟨RX10, "held", "(II)I"⟩
abbrev cX10_investor : ByteArray := prog_12_method_55_code
def yX10_investor : MethodName := ⟨RX10, "investor", "(II)I"⟩
abbrev cX10_notesOf : ByteArray := prog_12_method_56_code
def yX10_notesOf : MethodName := ⟨RX10, "notesOf", "(I)I"⟩
abbrev cX10_loan : ByteArray := prog_12_method_57_code
def yX10_loan : MethodName := ⟨RX10, "loan", "(II)I"⟩
abbrev cX10_note : ByteArray := prog_12_method_58_code
def yX10_note : MethodName := ⟨RX10, "note", "(II)I"⟩
abbrev cX10_split : ByteArray := prog_12_method_59_code
def yX10_split : MethodName := ⟨RX10, "split", "(III)I"⟩
abbrev cX10_toRepay : ByteArray := prog_12_method_60_code
def yX10_toRepay : MethodName := ⟨RX10, "toRepay", "(I)I"⟩
abbrev cX10_runningWith : ByteArray := prog_12_method_61_code
def yX10_runningWith : MethodName := ⟨RX10, "runningWith", "(I)I"⟩
abbrev cX10_servicer : ByteArray := prog_12_method_62_code
def yX10_servicer : MethodName := ⟨RX10, "servicer", "(II)I"⟩
abbrev cX10_inState : ByteArray := prog_12_method_63_code
def yX10_inState : MethodName := ⟨RX10, "inState", "(I)I"⟩
abbrev cX10_sumOf : ByteArray := prog_12_method_64_code
def yX10_sumOf : MethodName := ⟨RX10, "sumOf", "(I)I"⟩
abbrev cX10_losses : ByteArray := prog_12_method_65_code
def yX10_losses : MethodName := ⟨RX10, "losses", "()I"⟩
abbrev cX10_count : ByteArray := prog_12_method_66_code
def yX10_count : MethodName := ⟨RX10, "count", "(I)I"⟩
def RJ9 : String := "java/lang/Math"
def TJ9 : u_T := fun k => match k with
  | _ => ("", "", "", false)
def tyJ9 : Nat → FieldType := fun k => match k with
  | _ => .int
abbrev wsJ90 : List Cond := u_ws RJ9 TJ9 0
theorem nmJ9 : ∀ a, a < 0 → ∀ b, b < 0 → a ≠ b → (TJ9 a).2.1 ≠ (TJ9 b).2.1 := by decide +kernel
theorem tyJ9_ok : ∀ k, k < 0 → parseFieldDescriptor (TJ9 k).2.2.1 = some (tyJ9 k) := by decide +kernel
abbrev cJ9_max_7cf53 : ByteArray := prog_13_method_65_code
def yJ9_max_7cf53 : MethodName := ⟨RJ9, "max", "(II)I"⟩
abbrev cJ9_min_7cf53 : ByteArray := prog_13_method_69_code
def yJ9_min_7cf53 : MethodName := ⟨RJ9, "min", "(II)I"⟩
def RL : String := "PeerNotesLaw"
abbrev cL_law : ByteArray := code
def yL_law : MethodName := ⟨RL, "law", "([I)Z"⟩
def wsJ9_max_7cf53 : List Cond := .code yJ9_max_7cf53 cJ9_max_7cf53 2 (some .int) :: ([])
def wsJ9_min_7cf53 : List Cond := .code yJ9_min_7cf53 cJ9_min_7cf53 2 (some .int) :: ([])
theorem dJ9_max_7cf53_0 : decode cJ9_max_7cf53 0 = .ok (.iload_n 0, 1) := by decide +kernel
theorem dJ9_max_7cf53_1 : decode cJ9_max_7cf53 1 = .ok (.iload_n 1, 1) := by decide +kernel
theorem dJ9_max_7cf53_2 : decode cJ9_max_7cf53 2 = .ok (.if_icmp .lt 7, 3) := by decide +kernel
theorem dJ9_max_7cf53_5 : decode cJ9_max_7cf53 5 = .ok (.iload_n 0, 1) := by decide +kernel
theorem dJ9_max_7cf53_6 : decode cJ9_max_7cf53 6 = .ok (.goto 4, 3) := by decide +kernel
theorem dJ9_max_7cf53_9 : decode cJ9_max_7cf53 9 = .ok (.iload_n 1, 1) := by decide +kernel
theorem dJ9_max_7cf53_10 : decode cJ9_max_7cf53 10 = .ok (.ireturn, 1) := by decide +kernel
theorem dJ9_min_7cf53_0 : decode cJ9_min_7cf53 0 = .ok (.iload_n 0, 1) := by decide +kernel
theorem dJ9_min_7cf53_1 : decode cJ9_min_7cf53 1 = .ok (.iload_n 1, 1) := by decide +kernel
theorem dJ9_min_7cf53_2 : decode cJ9_min_7cf53 2 = .ok (.if_icmp .gt 7, 3) := by decide +kernel
theorem dJ9_min_7cf53_5 : decode cJ9_min_7cf53 5 = .ok (.iload_n 0, 1) := by decide +kernel
theorem dJ9_min_7cf53_6 : decode cJ9_min_7cf53 6 = .ok (.goto 4, 3) := by decide +kernel
theorem dJ9_min_7cf53_9 : decode cJ9_min_7cf53 9 = .ok (.iload_n 1, 1) := by decide +kernel
theorem dJ9_min_7cf53_10 : decode cJ9_min_7cf53 10 = .ok (.ireturn, 1) := by decide +kernel
abbrev vwCl : List vw_C := [(RX0, TX0, 4), (RX1, TX1, 4), (RX2, TX2, 2), (RX3, TX3, 3), (RX4, TX4, 11), (RX5, TX5, 10), (RX6, TX6, 7), (RX7, TX7, 6), (RX8, TX8, 3), (RX9, TX9, 8), (RX10, TX10, 15)]
end
section
theorem dX0_init_0 : decode cX0_init 0 = .ok (.aload_n 0, 1) := by decide +kernel
theorem dX0_init_1 : decode cX0_init 1 = .ok (.invokespecial 1, 3) := by decide +kernel
theorem dX0_init_4 : decode cX0_init 4 = .ok (.return_, 1) := by decide +kernel
theorem dX1_init_0 : decode cX1_init 0 = .ok (.aload_n 0, 1) := by decide +kernel
theorem dX1_init_1 : decode cX1_init 1 = .ok (.invokespecial 3, 3) := by decide +kernel
theorem dX1_init_4 : decode cX1_init 4 = .ok (.aload_n 0, 1) := by decide +kernel
theorem dX1_init_5 : decode cX1_init 5 = .ok (.bipush 60, 2) := by decide +kernel
theorem dX1_init_7 : decode cX1_init 7 = .ok (.newarray .char, 2) := by decide +kernel
theorem dX1_init_9 : decode cX1_init 9 = .ok (.putfield 9, 3) := by decide +kernel
theorem dX1_init_12 : decode cX1_init 12 = .ok (.aload_n 0, 1) := by decide +kernel
theorem dX1_init_13 : decode cX1_init 13 = .ok (.iconst 0, 1) := by decide +kernel
theorem dX1_init_14 : decode cX1_init 14 = .ok (.putfield 15, 3) := by decide +kernel
theorem dX1_init_17 : decode cX1_init 17 = .ok (.aload_n 0, 1) := by decide +kernel
theorem dX1_init_18 : decode cX1_init 18 = .ok (.bipush 10, 2) := by decide +kernel
theorem dX1_init_20 : decode cX1_init 20 = .ok (.anewarray 19, 3) := by decide +kernel
theorem dX1_init_23 : decode cX1_init 23 = .ok (.putfield 21, 3) := by decide +kernel
theorem dX1_init_26 : decode cX1_init 26 = .ok (.aload_n 0, 1) := by decide +kernel
theorem dX1_init_27 : decode cX1_init 27 = .ok (.iconst 0, 1) := by decide +kernel
theorem dX1_init_28 : decode cX1_init 28 = .ok (.putfield 25, 3) := by decide +kernel
theorem dX1_init_31 : decode cX1_init 31 = .ok (.iconst 0, 1) := by decide +kernel
theorem dX1_init_32 : decode cX1_init 32 = .ok (.istore_n 1, 1) := by decide +kernel
theorem dX1_init_33 : decode cX1_init 33 = .ok (.iload_n 1, 1) := by decide +kernel
theorem dX1_init_34 : decode cX1_init 34 = .ok (.aload_n 0, 1) := by decide +kernel
theorem dX1_init_35 : decode cX1_init 35 = .ok (.getfield 21, 3) := by decide +kernel
theorem dX1_init_38 : decode cX1_init 38 = .ok (.arraylength, 1) := by decide +kernel
theorem dX1_init_39 : decode cX1_init 39 = .ok (.if_icmp .ge 22, 3) := by decide +kernel
theorem dX1_init_42 : decode cX1_init 42 = .ok (.aload_n 0, 1) := by decide +kernel
theorem dX1_init_43 : decode cX1_init 43 = .ok (.getfield 21, 3) := by decide +kernel
theorem dX1_init_46 : decode cX1_init 46 = .ok (.iload_n 1, 1) := by decide +kernel
theorem dX1_init_47 : decode cX1_init 47 = .ok (.new 19, 3) := by decide +kernel
theorem dX1_init_50 : decode cX1_init 50 = .ok (.dup, 1) := by decide +kernel
theorem dX1_init_51 : decode cX1_init 51 = .ok (.invokespecial 28, 3) := by decide +kernel
theorem dX1_init_54 : decode cX1_init 54 = .ok (.aastore, 1) := by decide +kernel
theorem dX1_init_55 : decode cX1_init 55 = .ok (.iinc 1 1, 3) := by decide +kernel
theorem dX1_init_58 : decode cX1_init 58 = .ok (.goto (-25), 3) := by decide +kernel
theorem dX1_init_61 : decode cX1_init 61 = .ok (.return_, 1) := by decide +kernel
theorem dX1_read_0 : decode cX1_read 0 = .ok (.iconst 0, 1) := by decide +kernel
theorem dX1_read_1 : decode cX1_read 1 = .ok (.istore_n 1, 1) := by decide +kernel
theorem dX1_read_2 : decode cX1_read 2 = .ok (.iconst 0, 1) := by decide +kernel
theorem dX1_read_3 : decode cX1_read 3 = .ok (.istore_n 2, 1) := by decide +kernel
theorem dX1_read_4 : decode cX1_read 4 = .ok (.iconst 0, 1) := by decide +kernel
theorem dX1_read_5 : decode cX1_read 5 = .ok (.istore_n 3, 1) := by decide +kernel
theorem dX1_read_6 : decode cX1_read 6 = .ok (.iload_n 3, 1) := by decide +kernel
theorem dX1_read_7 : decode cX1_read 7 = .ok (.aload_n 0, 1) := by decide +kernel
theorem dX1_read_8 : decode cX1_read 8 = .ok (.getfield 15, 3) := by decide +kernel
theorem dX1_read_11 : decode cX1_read 11 = .ok (.if_icmp .ge 67, 3) := by decide +kernel
theorem dX1_read_14 : decode cX1_read 14 = .ok (.iload_n 2, 1) := by decide +kernel
theorem dX1_read_15 : decode cX1_read 15 = .ok (.aload_n 0, 1) := by decide +kernel
theorem dX1_read_16 : decode cX1_read 16 = .ok (.getfield 21, 3) := by decide +kernel
theorem dX1_read_19 : decode cX1_read 19 = .ok (.arraylength, 1) := by decide +kernel
theorem dX1_read_20 : decode cX1_read 20 = .ok (.if_icmp .ge 58, 3) := by decide +kernel
theorem dX1_read_23 : decode cX1_read 23 = .ok (.aload_n 0, 1) := by decide +kernel
theorem dX1_read_24 : decode cX1_read 24 = .ok (.getfield 9, 3) := by decide +kernel
theorem dX1_read_27 : decode cX1_read 27 = .ok (.iload_n 3, 1) := by decide +kernel
theorem dX1_read_28 : decode cX1_read 28 = .ok (.caload, 1) := by decide +kernel
theorem dX1_read_29 : decode cX1_read 29 = .ok (.istore 4, 2) := by decide +kernel
theorem dX1_read_31 : decode cX1_read 31 = .ok (.iload 4, 2) := by decide +kernel
theorem dX1_read_33 : decode cX1_read 33 = .ok (.iload_n 1, 1) := by decide +kernel
theorem dX1_read_34 : decode cX1_read 34 = .ok (.invokestatic 29, 3) := by decide +kernel
theorem dX1_read_37 : decode cX1_read 37 = .ok (.ifCond .ne 5, 3) := by decide +kernel
theorem dX1_read_40 : decode cX1_read 40 = .ok (.iload_n 3, 1) := by decide +kernel
theorem dX1_read_41 : decode cX1_read 41 = .ok (.ireturn, 1) := by decide +kernel
theorem dX1_read_42 : decode cX1_read 42 = .ok (.iload 4, 2) := by decide +kernel
theorem dX1_read_44 : decode cX1_read 44 = .ok (.bipush 59, 2) := by decide +kernel
theorem dX1_read_46 : decode cX1_read 46 = .ok (.if_icmp .ne 11, 3) := by decide +kernel
theorem dX1_read_49 : decode cX1_read 49 = .ok (.iinc 2 1, 3) := by decide +kernel
theorem dX1_read_52 : decode cX1_read 52 = .ok (.iconst 0, 1) := by decide +kernel
theorem dX1_read_53 : decode cX1_read 53 = .ok (.istore_n 1, 1) := by decide +kernel
theorem dX1_read_54 : decode cX1_read 54 = .ok (.goto 18, 3) := by decide +kernel
theorem dX1_read_57 : decode cX1_read 57 = .ok (.aload_n 0, 1) := by decide +kernel
theorem dX1_read_58 : decode cX1_read 58 = .ok (.getfield 21, 3) := by decide +kernel
theorem dX1_read_61 : decode cX1_read 61 = .ok (.iload_n 2, 1) := by decide +kernel
theorem dX1_read_62 : decode cX1_read 62 = .ok (.aaload, 1) := by decide +kernel
theorem dX1_read_63 : decode cX1_read 63 = .ok (.iload 4, 2) := by decide +kernel
theorem dX1_read_65 : decode cX1_read 65 = .ok (.iload_n 1, 1) := by decide +kernel
theorem dX1_read_66 : decode cX1_read 66 = .ok (.invokestatic 33, 3) := by decide +kernel
theorem dX1_read_69 : decode cX1_read 69 = .ok (.iinc 1 1, 3) := by decide +kernel
theorem dX1_read_72 : decode cX1_read 72 = .ok (.iinc 3 1, 3) := by decide +kernel
theorem dX1_read_75 : decode cX1_read 75 = .ok (.goto (-69), 3) := by decide +kernel
theorem dX1_read_78 : decode cX1_read 78 = .ok (.iload_n 1, 1) := by decide +kernel
theorem dX1_read_79 : decode cX1_read 79 = .ok (.iconst 4, 1) := by decide +kernel
theorem dX1_read_80 : decode cX1_read 80 = .ok (.if_icmp .gt 8, 3) := by decide +kernel
theorem dX1_read_83 : decode cX1_read 83 = .ok (.aload_n 0, 1) := by decide +kernel
theorem dX1_read_84 : decode cX1_read 84 = .ok (.getfield 15, 3) := by decide +kernel
theorem dX1_read_87 : decode cX1_read 87 = .ok (.ireturn, 1) := by decide +kernel
theorem dX1_read_88 : decode cX1_read 88 = .ok (.aload_n 0, 1) := by decide +kernel
theorem dX1_read_89 : decode cX1_read 89 = .ok (.iload_n 2, 1) := by decide +kernel
theorem dX1_read_90 : decode cX1_read 90 = .ok (.iconst 1, 1) := by decide +kernel
theorem dX1_read_91 : decode cX1_read 91 = .ok (.iadd, 1) := by decide +kernel
theorem dX1_read_92 : decode cX1_read 92 = .ok (.putfield 25, 3) := by decide +kernel
theorem dX1_read_95 : decode cX1_read 95 = .ok (.iconst (-1), 1) := by decide +kernel
theorem dX1_read_96 : decode cX1_read 96 = .ok (.ireturn, 1) := by decide +kernel
theorem dX1_isAllowed_0 : decode cX1_isAllowed 0 = .ok (.iload_n 0, 1) := by decide +kernel
theorem dX1_isAllowed_1 : decode cX1_isAllowed 1 = .ok (.bipush 48, 2) := by decide +kernel
theorem dX1_isAllowed_3 : decode cX1_isAllowed 3 = .ok (.if_icmp .lt 13, 3) := by decide +kernel
theorem dX1_isAllowed_6 : decode cX1_isAllowed 6 = .ok (.iload_n 0, 1) := by decide +kernel
theorem dX1_isAllowed_7 : decode cX1_isAllowed 7 = .ok (.bipush 57, 2) := by decide +kernel
theorem dX1_isAllowed_9 : decode cX1_isAllowed 9 = .ok (.if_icmp .gt 7, 3) := by decide +kernel
theorem dX1_isAllowed_12 : decode cX1_isAllowed 12 = .ok (.iconst 1, 1) := by decide +kernel
theorem dX1_isAllowed_13 : decode cX1_isAllowed 13 = .ok (.goto 4, 3) := by decide +kernel
theorem dX1_isAllowed_16 : decode cX1_isAllowed 16 = .ok (.iconst 0, 1) := by decide +kernel
theorem dX1_isAllowed_17 : decode cX1_isAllowed 17 = .ok (.istore_n 2, 1) := by decide +kernel
theorem dX1_isAllowed_18 : decode cX1_isAllowed 18 = .ok (.iload_n 1, 1) := by decide +kernel
theorem dX1_isAllowed_19 : decode cX1_isAllowed 19 = .ok (.tableswitch 81 0 4 #[33, 35, 33, 47, 65], 33) := by decide +kernel
theorem dX1_isAllowed_52 : decode cX1_isAllowed 52 = .ok (.iload_n 2, 1) := by decide +kernel
theorem dX1_isAllowed_53 : decode cX1_isAllowed 53 = .ok (.ireturn, 1) := by decide +kernel
theorem dX1_isAllowed_54 : decode cX1_isAllowed 54 = .ok (.iload_n 0, 1) := by decide +kernel
theorem dX1_isAllowed_55 : decode cX1_isAllowed 55 = .ok (.bipush 62, 2) := by decide +kernel
theorem dX1_isAllowed_57 : decode cX1_isAllowed 57 = .ok (.if_icmp .ne 7, 3) := by decide +kernel
theorem dX1_isAllowed_60 : decode cX1_isAllowed 60 = .ok (.iconst 1, 1) := by decide +kernel
theorem dX1_isAllowed_61 : decode cX1_isAllowed 61 = .ok (.goto 4, 3) := by decide +kernel
theorem dX1_isAllowed_64 : decode cX1_isAllowed 64 = .ok (.iconst 0, 1) := by decide +kernel
theorem dX1_isAllowed_65 : decode cX1_isAllowed 65 = .ok (.ireturn, 1) := by decide +kernel
theorem dX1_isAllowed_66 : decode cX1_isAllowed 66 = .ok (.iload_n 0, 1) := by decide +kernel
theorem dX1_isAllowed_67 : decode cX1_isAllowed 67 = .ok (.bipush 115, 2) := by decide +kernel
theorem dX1_isAllowed_69 : decode cX1_isAllowed 69 = .ok (.if_icmp .eq 9, 3) := by decide +kernel
theorem dX1_isAllowed_72 : decode cX1_isAllowed 72 = .ok (.iload_n 0, 1) := by decide +kernel
theorem dX1_isAllowed_73 : decode cX1_isAllowed 73 = .ok (.bipush 106, 2) := by decide +kernel
theorem dX1_isAllowed_75 : decode cX1_isAllowed 75 = .ok (.if_icmp .ne 7, 3) := by decide +kernel
theorem dX1_isAllowed_78 : decode cX1_isAllowed 78 = .ok (.iconst 1, 1) := by decide +kernel
theorem dX1_isAllowed_79 : decode cX1_isAllowed 79 = .ok (.goto 4, 3) := by decide +kernel
theorem dX1_isAllowed_82 : decode cX1_isAllowed 82 = .ok (.iconst 0, 1) := by decide +kernel
theorem dX1_isAllowed_83 : decode cX1_isAllowed 83 = .ok (.ireturn, 1) := by decide +kernel
theorem dX1_isAllowed_84 : decode cX1_isAllowed 84 = .ok (.iload_n 2, 1) := by decide +kernel
theorem dX1_isAllowed_85 : decode cX1_isAllowed 85 = .ok (.ifCond .eq 13, 3) := by decide +kernel
theorem dX1_isAllowed_88 : decode cX1_isAllowed 88 = .ok (.iload_n 0, 1) := by decide +kernel
theorem dX1_isAllowed_89 : decode cX1_isAllowed 89 = .ok (.bipush 48, 2) := by decide +kernel
theorem dX1_isAllowed_91 : decode cX1_isAllowed 91 = .ok (.if_icmp .eq 7, 3) := by decide +kernel
theorem dX1_isAllowed_94 : decode cX1_isAllowed 94 = .ok (.iconst 1, 1) := by decide +kernel
theorem dX1_isAllowed_95 : decode cX1_isAllowed 95 = .ok (.goto 4, 3) := by decide +kernel
theorem dX1_isAllowed_98 : decode cX1_isAllowed 98 = .ok (.iconst 0, 1) := by decide +kernel
theorem dX1_isAllowed_99 : decode cX1_isAllowed 99 = .ok (.ireturn, 1) := by decide +kernel
theorem dX1_isAllowed_100 : decode cX1_isAllowed 100 = .ok (.iload_n 0, 1) := by decide +kernel
theorem dX1_isAllowed_101 : decode cX1_isAllowed 101 = .ok (.bipush 59, 2) := by decide +kernel
theorem dX1_isAllowed_103 : decode cX1_isAllowed 103 = .ok (.if_icmp .eq 13, 3) := by decide +kernel
theorem dX1_isAllowed_106 : decode cX1_isAllowed 106 = .ok (.iload_n 2, 1) := by decide +kernel
theorem dX1_isAllowed_107 : decode cX1_isAllowed 107 = .ok (.ifCond .eq 13, 3) := by decide +kernel
theorem dX1_isAllowed_110 : decode cX1_isAllowed 110 = .ok (.iload_n 1, 1) := by decide +kernel
theorem dX1_isAllowed_111 : decode cX1_isAllowed 111 = .ok (.bipush 8, 2) := by decide +kernel
theorem dX1_isAllowed_113 : decode cX1_isAllowed 113 = .ok (.if_icmp .gt 7, 3) := by decide +kernel
theorem dX1_isAllowed_116 : decode cX1_isAllowed 116 = .ok (.iconst 1, 1) := by decide +kernel
theorem dX1_isAllowed_117 : decode cX1_isAllowed 117 = .ok (.goto 4, 3) := by decide +kernel
theorem dX1_isAllowed_120 : decode cX1_isAllowed 120 = .ok (.iconst 0, 1) := by decide +kernel
theorem dX1_isAllowed_121 : decode cX1_isAllowed 121 = .ok (.ireturn, 1) := by decide +kernel
theorem dX1_take_0 : decode cX1_take 0 = .ok (.iload_n 2, 1) := by decide +kernel
theorem dX1_take_1 : decode cX1_take 1 = .ok (.tableswitch 89 0 4 #[35, 46, 49, 60, 78], 35) := by decide +kernel
theorem dX1_take_36 : decode cX1_take 36 = .ok (.aload_n 0, 1) := by decide +kernel
theorem dX1_take_37 : decode cX1_take 37 = .ok (.iload_n 1, 1) := by decide +kernel
theorem dX1_take_38 : decode cX1_take 38 = .ok (.bipush 48, 2) := by decide +kernel
theorem dX1_take_40 : decode cX1_take 40 = .ok (.isub, 1) := by decide +kernel
theorem dX1_take_41 : decode cX1_take 41 = .ok (.putfield 37, 3) := by decide +kernel
theorem dX1_take_44 : decode cX1_take 44 = .ok (.goto 62, 3) := by decide +kernel
theorem dX1_take_47 : decode cX1_take 47 = .ok (.goto 59, 3) := by decide +kernel
theorem dX1_take_50 : decode cX1_take 50 = .ok (.aload_n 0, 1) := by decide +kernel
theorem dX1_take_51 : decode cX1_take 51 = .ok (.iload_n 1, 1) := by decide +kernel
theorem dX1_take_52 : decode cX1_take 52 = .ok (.bipush 48, 2) := by decide +kernel
theorem dX1_take_54 : decode cX1_take 54 = .ok (.isub, 1) := by decide +kernel
theorem dX1_take_55 : decode cX1_take 55 = .ok (.putfield 40, 3) := by decide +kernel
theorem dX1_take_58 : decode cX1_take 58 = .ok (.goto 48, 3) := by decide +kernel
theorem dX1_take_61 : decode cX1_take 61 = .ok (.aload_n 0, 1) := by decide +kernel
theorem dX1_take_62 : decode cX1_take 62 = .ok (.iload_n 1, 1) := by decide +kernel
theorem dX1_take_63 : decode cX1_take 63 = .ok (.bipush 106, 2) := by decide +kernel
theorem dX1_take_65 : decode cX1_take 65 = .ok (.if_icmp .ne 7, 3) := by decide +kernel
theorem dX1_take_68 : decode cX1_take 68 = .ok (.iconst 1, 1) := by decide +kernel
theorem dX1_take_69 : decode cX1_take 69 = .ok (.goto 4, 3) := by decide +kernel
theorem dX1_take_72 : decode cX1_take 72 = .ok (.iconst 0, 1) := by decide +kernel
theorem dX1_take_73 : decode cX1_take 73 = .ok (.putfield 43, 3) := by decide +kernel
theorem dX1_take_76 : decode cX1_take 76 = .ok (.goto 30, 3) := by decide +kernel
theorem dX1_take_79 : decode cX1_take 79 = .ok (.aload_n 0, 1) := by decide +kernel
theorem dX1_take_80 : decode cX1_take 80 = .ok (.iload_n 1, 1) := by decide +kernel
theorem dX1_take_81 : decode cX1_take 81 = .ok (.bipush 48, 2) := by decide +kernel
theorem dX1_take_83 : decode cX1_take 83 = .ok (.isub, 1) := by decide +kernel
theorem dX1_take_84 : decode cX1_take 84 = .ok (.putfield 46, 3) := by decide +kernel
theorem dX1_take_87 : decode cX1_take 87 = .ok (.goto 19, 3) := by decide +kernel
theorem dX1_take_90 : decode cX1_take 90 = .ok (.aload_n 0, 1) := by decide +kernel
theorem dX1_take_91 : decode cX1_take 91 = .ok (.aload_n 0, 1) := by decide +kernel
theorem dX1_take_92 : decode cX1_take 92 = .ok (.getfield 46, 3) := by decide +kernel
theorem dX1_take_95 : decode cX1_take 95 = .ok (.bipush 10, 2) := by decide +kernel
theorem dX1_take_97 : decode cX1_take 97 = .ok (.imul, 1) := by decide +kernel
theorem dX1_take_98 : decode cX1_take 98 = .ok (.iload_n 1, 1) := by decide +kernel
theorem dX1_take_99 : decode cX1_take 99 = .ok (.bipush 48, 2) := by decide +kernel
theorem dX1_take_101 : decode cX1_take 101 = .ok (.isub, 1) := by decide +kernel
theorem dX1_take_102 : decode cX1_take 102 = .ok (.iadd, 1) := by decide +kernel
theorem dX1_take_103 : decode cX1_take 103 = .ok (.putfield 46, 3) := by decide +kernel
theorem dX1_take_106 : decode cX1_take 106 = .ok (.return_, 1) := by decide +kernel
theorem dX2_init_0 : decode cX2_init 0 = .ok (.aload_n 0, 1) := by decide +kernel
theorem dX2_init_1 : decode cX2_init 1 = .ok (.invokespecial 3, 3) := by decide +kernel
theorem dX2_init_4 : decode cX2_init 4 = .ok (.aload_n 0, 1) := by decide +kernel
theorem dX2_init_5 : decode cX2_init 5 = .ok (.iconst 4, 1) := by decide +kernel
theorem dX2_init_6 : decode cX2_init 6 = .ok (.anewarray 9, 3) := by decide +kernel
theorem dX2_init_9 : decode cX2_init 9 = .ok (.putfield 11, 3) := by decide +kernel
theorem dX2_init_12 : decode cX2_init 12 = .ok (.aload_n 0, 1) := by decide +kernel
theorem dX2_init_13 : decode cX2_init 13 = .ok (.iconst 0, 1) := by decide +kernel
theorem dX2_init_14 : decode cX2_init 14 = .ok (.putfield 17, 3) := by decide +kernel
theorem dX2_init_17 : decode cX2_init 17 = .ok (.iconst 0, 1) := by decide +kernel
theorem dX2_init_18 : decode cX2_init 18 = .ok (.istore_n 1, 1) := by decide +kernel
theorem dX2_init_19 : decode cX2_init 19 = .ok (.iload_n 1, 1) := by decide +kernel
theorem dX2_init_20 : decode cX2_init 20 = .ok (.aload_n 0, 1) := by decide +kernel
theorem dX2_init_21 : decode cX2_init 21 = .ok (.getfield 11, 3) := by decide +kernel
theorem dX2_init_24 : decode cX2_init 24 = .ok (.arraylength, 1) := by decide +kernel
theorem dX2_init_25 : decode cX2_init 25 = .ok (.if_icmp .ge 22, 3) := by decide +kernel
theorem dX2_init_28 : decode cX2_init 28 = .ok (.aload_n 0, 1) := by decide +kernel
theorem dX2_init_29 : decode cX2_init 29 = .ok (.getfield 11, 3) := by decide +kernel
theorem dX2_init_32 : decode cX2_init 32 = .ok (.iload_n 1, 1) := by decide +kernel
theorem dX2_init_33 : decode cX2_init 33 = .ok (.new 9, 3) := by decide +kernel
theorem dX2_init_36 : decode cX2_init 36 = .ok (.dup, 1) := by decide +kernel
theorem dX2_init_37 : decode cX2_init 37 = .ok (.invokespecial 21, 3) := by decide +kernel
theorem dX2_init_40 : decode cX2_init 40 = .ok (.aastore, 1) := by decide +kernel
theorem dX2_init_41 : decode cX2_init 41 = .ok (.iinc 1 1, 3) := by decide +kernel
theorem dX2_init_44 : decode cX2_init 44 = .ok (.goto (-25), 3) := by decide +kernel
theorem dX2_init_47 : decode cX2_init 47 = .ok (.return_, 1) := by decide +kernel
theorem dX2_record_0 : decode cX2_record 0 = .ok (.aload_n 0, 1) := by decide +kernel
theorem dX2_record_1 : decode cX2_record 1 = .ok (.getfield 17, 3) := by decide +kernel
theorem dX2_record_4 : decode cX2_record 4 = .ok (.aload_n 0, 1) := by decide +kernel
theorem dX2_record_5 : decode cX2_record 5 = .ok (.getfield 11, 3) := by decide +kernel
theorem dX2_record_8 : decode cX2_record 8 = .ok (.arraylength, 1) := by decide +kernel
theorem dX2_record_9 : decode cX2_record 9 = .ok (.if_icmp .lt 7, 3) := by decide +kernel
theorem dX2_record_12 : decode cX2_record 12 = .ok (.aload_n 0, 1) := by decide +kernel
theorem dX2_record_13 : decode cX2_record 13 = .ok (.invokevirtual 22, 3) := by decide +kernel
theorem dX2_record_16 : decode cX2_record 16 = .ok (.aload_n 0, 1) := by decide +kernel
theorem dX2_record_17 : decode cX2_record 17 = .ok (.getfield 11, 3) := by decide +kernel
theorem dX2_record_20 : decode cX2_record 20 = .ok (.aload_n 0, 1) := by decide +kernel
theorem dX2_record_21 : decode cX2_record 21 = .ok (.getfield 17, 3) := by decide +kernel
theorem dX2_record_24 : decode cX2_record 24 = .ok (.aaload, 1) := by decide +kernel
theorem dX2_record_25 : decode cX2_record 25 = .ok (.aload_n 1, 1) := by decide +kernel
theorem dX2_record_26 : decode cX2_record 26 = .ok (.invokevirtual 25, 3) := by decide +kernel
theorem dX2_record_29 : decode cX2_record 29 = .ok (.aload_n 0, 1) := by decide +kernel
theorem dX2_record_30 : decode cX2_record 30 = .ok (.dup, 1) := by decide +kernel
theorem dX2_record_31 : decode cX2_record 31 = .ok (.getfield 17, 3) := by decide +kernel
theorem dX2_record_34 : decode cX2_record 34 = .ok (.iconst 1, 1) := by decide +kernel
theorem dX2_record_35 : decode cX2_record 35 = .ok (.iadd, 1) := by decide +kernel
theorem dX2_record_36 : decode cX2_record 36 = .ok (.putfield 17, 3) := by decide +kernel
theorem dX2_record_39 : decode cX2_record 39 = .ok (.return_, 1) := by decide +kernel
theorem dX2_takeLatest_0 : decode cX2_takeLatest 0 = .ok (.aload_n 0, 1) := by decide +kernel
theorem dX2_takeLatest_1 : decode cX2_takeLatest 1 = .ok (.getfield 17, 3) := by decide +kernel
theorem dX2_takeLatest_4 : decode cX2_takeLatest 4 = .ok (.ifCond .le 26, 3) := by decide +kernel
theorem dX2_takeLatest_7 : decode cX2_takeLatest 7 = .ok (.aload_n 0, 1) := by decide +kernel
theorem dX2_takeLatest_8 : decode cX2_takeLatest 8 = .ok (.dup, 1) := by decide +kernel
theorem dX2_takeLatest_9 : decode cX2_takeLatest 9 = .ok (.getfield 17, 3) := by decide +kernel
theorem dX2_takeLatest_12 : decode cX2_takeLatest 12 = .ok (.iconst 1, 1) := by decide +kernel
theorem dX2_takeLatest_13 : decode cX2_takeLatest 13 = .ok (.isub, 1) := by decide +kernel
theorem dX2_takeLatest_14 : decode cX2_takeLatest 14 = .ok (.putfield 17, 3) := by decide +kernel
theorem dX2_takeLatest_17 : decode cX2_takeLatest 17 = .ok (.aload_n 1, 1) := by decide +kernel
theorem dX2_takeLatest_18 : decode cX2_takeLatest 18 = .ok (.aload_n 0, 1) := by decide +kernel
theorem dX2_takeLatest_19 : decode cX2_takeLatest 19 = .ok (.getfield 11, 3) := by decide +kernel
theorem dX2_takeLatest_22 : decode cX2_takeLatest 22 = .ok (.aload_n 0, 1) := by decide +kernel
theorem dX2_takeLatest_23 : decode cX2_takeLatest 23 = .ok (.getfield 17, 3) := by decide +kernel
theorem dX2_takeLatest_26 : decode cX2_takeLatest 26 = .ok (.aaload, 1) := by decide +kernel
theorem dX2_takeLatest_27 : decode cX2_takeLatest 27 = .ok (.invokevirtual 25, 3) := by decide +kernel
theorem dX2_takeLatest_30 : decode cX2_takeLatest 30 = .ok (.return_, 1) := by decide +kernel
theorem dX2_dropOldest_0 : decode cX2_dropOldest 0 = .ok (.aload_n 0, 1) := by decide +kernel
theorem dX2_dropOldest_1 : decode cX2_dropOldest 1 = .ok (.getfield 11, 3) := by decide +kernel
theorem dX2_dropOldest_4 : decode cX2_dropOldest 4 = .ok (.iconst 0, 1) := by decide +kernel
theorem dX2_dropOldest_5 : decode cX2_dropOldest 5 = .ok (.aaload, 1) := by decide +kernel
theorem dX2_dropOldest_6 : decode cX2_dropOldest 6 = .ok (.astore_n 1, 1) := by decide +kernel
theorem dX2_dropOldest_7 : decode cX2_dropOldest 7 = .ok (.iconst 1, 1) := by decide +kernel
theorem dX2_dropOldest_8 : decode cX2_dropOldest 8 = .ok (.istore_n 2, 1) := by decide +kernel
theorem dX2_dropOldest_9 : decode cX2_dropOldest 9 = .ok (.iload_n 2, 1) := by decide +kernel
theorem dX2_dropOldest_10 : decode cX2_dropOldest 10 = .ok (.aload_n 0, 1) := by decide +kernel
theorem dX2_dropOldest_11 : decode cX2_dropOldest 11 = .ok (.getfield 11, 3) := by decide +kernel
theorem dX2_dropOldest_14 : decode cX2_dropOldest 14 = .ok (.arraylength, 1) := by decide +kernel
theorem dX2_dropOldest_15 : decode cX2_dropOldest 15 = .ok (.if_icmp .ge 23, 3) := by decide +kernel
theorem dX2_dropOldest_18 : decode cX2_dropOldest 18 = .ok (.aload_n 0, 1) := by decide +kernel
theorem dX2_dropOldest_19 : decode cX2_dropOldest 19 = .ok (.getfield 11, 3) := by decide +kernel
theorem dX2_dropOldest_22 : decode cX2_dropOldest 22 = .ok (.iload_n 2, 1) := by decide +kernel
theorem dX2_dropOldest_23 : decode cX2_dropOldest 23 = .ok (.iconst 1, 1) := by decide +kernel
theorem dX2_dropOldest_24 : decode cX2_dropOldest 24 = .ok (.isub, 1) := by decide +kernel
theorem dX2_dropOldest_25 : decode cX2_dropOldest 25 = .ok (.aload_n 0, 1) := by decide +kernel
theorem dX2_dropOldest_26 : decode cX2_dropOldest 26 = .ok (.getfield 11, 3) := by decide +kernel
theorem dX2_dropOldest_29 : decode cX2_dropOldest 29 = .ok (.iload_n 2, 1) := by decide +kernel
theorem dX2_dropOldest_30 : decode cX2_dropOldest 30 = .ok (.aaload, 1) := by decide +kernel
theorem dX2_dropOldest_31 : decode cX2_dropOldest 31 = .ok (.aastore, 1) := by decide +kernel
theorem dX2_dropOldest_32 : decode cX2_dropOldest 32 = .ok (.iinc 2 1, 3) := by decide +kernel
theorem dX2_dropOldest_35 : decode cX2_dropOldest 35 = .ok (.goto (-26), 3) := by decide +kernel
theorem dX2_dropOldest_38 : decode cX2_dropOldest 38 = .ok (.aload_n 0, 1) := by decide +kernel
theorem dX2_dropOldest_39 : decode cX2_dropOldest 39 = .ok (.getfield 11, 3) := by decide +kernel
theorem dX2_dropOldest_42 : decode cX2_dropOldest 42 = .ok (.aload_n 0, 1) := by decide +kernel
theorem dX2_dropOldest_43 : decode cX2_dropOldest 43 = .ok (.getfield 11, 3) := by decide +kernel
theorem dX2_dropOldest_46 : decode cX2_dropOldest 46 = .ok (.arraylength, 1) := by decide +kernel
theorem dX2_dropOldest_47 : decode cX2_dropOldest 47 = .ok (.iconst 1, 1) := by decide +kernel
theorem dX2_dropOldest_48 : decode cX2_dropOldest 48 = .ok (.isub, 1) := by decide +kernel
theorem dX2_dropOldest_49 : decode cX2_dropOldest 49 = .ok (.aload_n 1, 1) := by decide +kernel
theorem dX2_dropOldest_50 : decode cX2_dropOldest 50 = .ok (.aastore, 1) := by decide +kernel
theorem dX2_dropOldest_51 : decode cX2_dropOldest 51 = .ok (.aload_n 0, 1) := by decide +kernel
theorem dX2_dropOldest_52 : decode cX2_dropOldest 52 = .ok (.aload_n 0, 1) := by decide +kernel
theorem dX2_dropOldest_53 : decode cX2_dropOldest 53 = .ok (.getfield 11, 3) := by decide +kernel
theorem dX2_dropOldest_56 : decode cX2_dropOldest 56 = .ok (.arraylength, 1) := by decide +kernel
theorem dX2_dropOldest_57 : decode cX2_dropOldest 57 = .ok (.iconst 1, 1) := by decide +kernel
theorem dX2_dropOldest_58 : decode cX2_dropOldest 58 = .ok (.isub, 1) := by decide +kernel
theorem dX2_dropOldest_59 : decode cX2_dropOldest 59 = .ok (.putfield 17, 3) := by decide +kernel
theorem dX2_dropOldest_62 : decode cX2_dropOldest 62 = .ok (.return_, 1) := by decide +kernel
theorem dX3_init_0 : decode cX3_init 0 = .ok (.aload_n 0, 1) := by decide +kernel
theorem dX3_init_1 : decode cX3_init 1 = .ok (.invokespecial 1, 3) := by decide +kernel
theorem dX3_init_4 : decode cX3_init 4 = .ok (.return_, 1) := by decide +kernel
theorem dX3_open_0 : decode cX3_open 0 = .ok (.aload_n 0, 1) := by decide +kernel
theorem dX3_open_1 : decode cX3_open 1 = .ok (.iload_n 1, 1) := by decide +kernel
theorem dX3_open_2 : decode cX3_open 2 = .ok (.putfield 7, 3) := by decide +kernel
theorem dX3_open_5 : decode cX3_open 5 = .ok (.aload_n 0, 1) := by decide +kernel
theorem dX3_open_6 : decode cX3_open 6 = .ok (.iconst 0, 1) := by decide +kernel
theorem dX3_open_7 : decode cX3_open 7 = .ok (.putfield 13, 3) := by decide +kernel
theorem dX3_open_10 : decode cX3_open 10 = .ok (.aload_n 0, 1) := by decide +kernel
theorem dX3_open_11 : decode cX3_open 11 = .ok (.iconst 0, 1) := by decide +kernel
theorem dX3_open_12 : decode cX3_open 12 = .ok (.putfield 16, 3) := by decide +kernel
theorem dX3_open_15 : decode cX3_open 15 = .ok (.return_, 1) := by decide +kernel
theorem dX3_copyFrom_0 : decode cX3_copyFrom 0 = .ok (.aload_n 0, 1) := by decide +kernel
theorem dX3_copyFrom_1 : decode cX3_copyFrom 1 = .ok (.aload_n 1, 1) := by decide +kernel
theorem dX3_copyFrom_2 : decode cX3_copyFrom 2 = .ok (.getfield 7, 3) := by decide +kernel
theorem dX3_copyFrom_5 : decode cX3_copyFrom 5 = .ok (.putfield 7, 3) := by decide +kernel
theorem dX3_copyFrom_8 : decode cX3_copyFrom 8 = .ok (.aload_n 0, 1) := by decide +kernel
theorem dX3_copyFrom_9 : decode cX3_copyFrom 9 = .ok (.aload_n 1, 1) := by decide +kernel
theorem dX3_copyFrom_10 : decode cX3_copyFrom 10 = .ok (.getfield 13, 3) := by decide +kernel
theorem dX3_copyFrom_13 : decode cX3_copyFrom 13 = .ok (.putfield 13, 3) := by decide +kernel
theorem dX3_copyFrom_16 : decode cX3_copyFrom 16 = .ok (.aload_n 0, 1) := by decide +kernel
theorem dX3_copyFrom_17 : decode cX3_copyFrom 17 = .ok (.aload_n 1, 1) := by decide +kernel
theorem dX3_copyFrom_18 : decode cX3_copyFrom 18 = .ok (.getfield 16, 3) := by decide +kernel
theorem dX3_copyFrom_21 : decode cX3_copyFrom 21 = .ok (.putfield 16, 3) := by decide +kernel
theorem dX3_copyFrom_24 : decode cX3_copyFrom 24 = .ok (.return_, 1) := by decide +kernel
theorem dX4_init_0 : decode cX4_init 0 = .ok (.aload_n 0, 1) := by decide +kernel
theorem dX4_init_1 : decode cX4_init 1 = .ok (.invokespecial 3, 3) := by decide +kernel
theorem dX4_init_4 : decode cX4_init 4 = .ok (.return_, 1) := by decide +kernel
theorem dX4_open_0 : decode cX4_open 0 = .ok (.aload_n 0, 1) := by decide +kernel
theorem dX4_open_1 : decode cX4_open 1 = .ok (.iconst 0, 1) := by decide +kernel
theorem dX4_open_2 : decode cX4_open 2 = .ok (.putfield 9, 3) := by decide +kernel
theorem dX4_open_5 : decode cX4_open 5 = .ok (.aload_n 0, 1) := by decide +kernel
theorem dX4_open_6 : decode cX4_open 6 = .ok (.iload_n 1, 1) := by decide +kernel
theorem dX4_open_7 : decode cX4_open 7 = .ok (.putfield 15, 3) := by decide +kernel
theorem dX4_open_10 : decode cX4_open 10 = .ok (.aload_n 0, 1) := by decide +kernel
theorem dX4_open_11 : decode cX4_open 11 = .ok (.iload_n 2, 1) := by decide +kernel
theorem dX4_open_12 : decode cX4_open 12 = .ok (.putfield 18, 3) := by decide +kernel
theorem dX4_open_15 : decode cX4_open 15 = .ok (.aload_n 0, 1) := by decide +kernel
theorem dX4_open_16 : decode cX4_open 16 = .ok (.iload_n 3, 1) := by decide +kernel
theorem dX4_open_17 : decode cX4_open 17 = .ok (.putfield 21, 3) := by decide +kernel
theorem dX4_open_20 : decode cX4_open 20 = .ok (.aload_n 0, 1) := by decide +kernel
theorem dX4_open_21 : decode cX4_open 21 = .ok (.iconst 0, 1) := by decide +kernel
theorem dX4_open_22 : decode cX4_open 22 = .ok (.putfield 24, 3) := by decide +kernel
theorem dX4_open_25 : decode cX4_open 25 = .ok (.aload_n 0, 1) := by decide +kernel
theorem dX4_open_26 : decode cX4_open 26 = .ok (.bipush (-5), 2) := by decide +kernel
theorem dX4_open_28 : decode cX4_open 28 = .ok (.putfield 27, 3) := by decide +kernel
theorem dX4_open_31 : decode cX4_open 31 = .ok (.aload_n 0, 1) := by decide +kernel
theorem dX4_open_32 : decode cX4_open 32 = .ok (.iconst 0, 1) := by decide +kernel
theorem dX4_open_33 : decode cX4_open 33 = .ok (.putfield 30, 3) := by decide +kernel
theorem dX4_open_36 : decode cX4_open 36 = .ok (.aload_n 0, 1) := by decide +kernel
theorem dX4_open_37 : decode cX4_open 37 = .ok (.iconst 0, 1) := by decide +kernel
theorem dX4_open_38 : decode cX4_open 38 = .ok (.putfield 33, 3) := by decide +kernel
theorem dX4_open_41 : decode cX4_open 41 = .ok (.aload_n 0, 1) := by decide +kernel
theorem dX4_open_42 : decode cX4_open 42 = .ok (.iconst 0, 1) := by decide +kernel
theorem dX4_open_43 : decode cX4_open 43 = .ok (.putfield 36, 3) := by decide +kernel
theorem dX4_open_46 : decode cX4_open 46 = .ok (.aload_n 0, 1) := by decide +kernel
theorem dX4_open_47 : decode cX4_open 47 = .ok (.iconst 0, 1) := by decide +kernel
theorem dX4_open_48 : decode cX4_open 48 = .ok (.putfield 39, 3) := by decide +kernel
theorem dX4_open_51 : decode cX4_open 51 = .ok (.aload_n 0, 1) := by decide +kernel
theorem dX4_open_52 : decode cX4_open 52 = .ok (.bipush (-5), 2) := by decide +kernel
theorem dX4_open_54 : decode cX4_open 54 = .ok (.putfield 42, 3) := by decide +kernel
theorem dX4_open_57 : decode cX4_open 57 = .ok (.return_, 1) := by decide +kernel
theorem dX4_start_0 : decode cX4_start 0 = .ok (.aload_n 0, 1) := by decide +kernel
theorem dX4_start_1 : decode cX4_start 1 = .ok (.iconst 1, 1) := by decide +kernel
theorem dX4_start_2 : decode cX4_start 2 = .ok (.putfield 9, 3) := by decide +kernel
theorem dX4_start_5 : decode cX4_start 5 = .ok (.aload_n 0, 1) := by decide +kernel
theorem dX4_start_6 : decode cX4_start 6 = .ok (.aload_n 0, 1) := by decide +kernel
theorem dX4_start_7 : decode cX4_start 7 = .ok (.getfield 15, 3) := by decide +kernel
theorem dX4_start_10 : decode cX4_start 10 = .ok (.putfield 24, 3) := by decide +kernel
theorem dX4_start_13 : decode cX4_start 13 = .ok (.aload_n 0, 1) := by decide +kernel
theorem dX4_start_14 : decode cX4_start 14 = .ok (.aload_n 0, 1) := by decide +kernel
theorem dX4_start_15 : decode cX4_start 15 = .ok (.getfield 15, 3) := by decide +kernel
theorem dX4_start_18 : decode cX4_start 18 = .ok (.aload_n 0, 1) := by decide +kernel
theorem dX4_start_19 : decode cX4_start 19 = .ok (.getfield 21, 3) := by decide +kernel
theorem dX4_start_22 : decode cX4_start 22 = .ok (.invokestatic 45, 3) := by decide +kernel
theorem dX4_start_25 : decode cX4_start 25 = .ok (.putfield 27, 3) := by decide +kernel
theorem dX4_start_28 : decode cX4_start 28 = .ok (.return_, 1) := by decide +kernel
theorem dX4_end_0 : decode cX4_end 0 = .ok (.aload_n 0, 1) := by decide +kernel
theorem dX4_end_1 : decode cX4_end 1 = .ok (.iload_n 1, 1) := by decide +kernel
theorem dX4_end_2 : decode cX4_end 2 = .ok (.putfield 9, 3) := by decide +kernel
theorem dX4_end_5 : decode cX4_end 5 = .ok (.aload_n 0, 1) := by decide +kernel
theorem dX4_end_6 : decode cX4_end 6 = .ok (.iconst 0, 1) := by decide +kernel
theorem dX4_end_7 : decode cX4_end 7 = .ok (.putfield 24, 3) := by decide +kernel
theorem dX4_end_10 : decode cX4_end 10 = .ok (.aload_n 0, 1) := by decide +kernel
theorem dX4_end_11 : decode cX4_end 11 = .ok (.iconst 0, 1) := by decide +kernel
theorem dX4_end_12 : decode cX4_end 12 = .ok (.putfield 30, 3) := by decide +kernel
theorem dX4_end_15 : decode cX4_end 15 = .ok (.aload_n 0, 1) := by decide +kernel
theorem dX4_end_16 : decode cX4_end 16 = .ok (.iconst 0, 1) := by decide +kernel
theorem dX4_end_17 : decode cX4_end 17 = .ok (.putfield 33, 3) := by decide +kernel
theorem dX4_end_20 : decode cX4_end 20 = .ok (.aload_n 0, 1) := by decide +kernel
theorem dX4_end_21 : decode cX4_end 21 = .ok (.iconst 0, 1) := by decide +kernel
theorem dX4_end_22 : decode cX4_end 22 = .ok (.putfield 36, 3) := by decide +kernel
theorem dX4_end_25 : decode cX4_end 25 = .ok (.aload_n 0, 1) := by decide +kernel
theorem dX4_end_26 : decode cX4_end 26 = .ok (.bipush (-5), 2) := by decide +kernel
theorem dX4_end_28 : decode cX4_end 28 = .ok (.putfield 42, 3) := by decide +kernel
theorem dX4_end_31 : decode cX4_end 31 = .ok (.return_, 1) := by decide +kernel
theorem dX4_passMonth_0 : decode cX4_passMonth 0 = .ok (.aload_n 0, 1) := by decide +kernel
theorem dX4_passMonth_1 : decode cX4_passMonth 1 = .ok (.getfield 42, 3) := by decide +kernel
theorem dX4_passMonth_4 : decode cX4_passMonth 4 = .ok (.bipush (-5), 2) := by decide +kernel
theorem dX4_passMonth_6 : decode cX4_passMonth 6 = .ok (.if_icmp .eq 17, 3) := by decide +kernel
theorem dX4_passMonth_9 : decode cX4_passMonth 9 = .ok (.aload_n 0, 1) := by decide +kernel
theorem dX4_passMonth_10 : decode cX4_passMonth 10 = .ok (.aload_n 0, 1) := by decide +kernel
theorem dX4_passMonth_11 : decode cX4_passMonth 11 = .ok (.getfield 42, 3) := by decide +kernel
theorem dX4_passMonth_14 : decode cX4_passMonth 14 = .ok (.putfield 39, 3) := by decide +kernel
theorem dX4_passMonth_17 : decode cX4_passMonth 17 = .ok (.aload_n 0, 1) := by decide +kernel
theorem dX4_passMonth_18 : decode cX4_passMonth 18 = .ok (.bipush (-5), 2) := by decide +kernel
theorem dX4_passMonth_20 : decode cX4_passMonth 20 = .ok (.putfield 42, 3) := by decide +kernel
theorem dX4_passMonth_23 : decode cX4_passMonth 23 = .ok (.aload_n 0, 1) := by decide +kernel
theorem dX4_passMonth_24 : decode cX4_passMonth 24 = .ok (.aload_n 0, 1) := by decide +kernel
theorem dX4_passMonth_25 : decode cX4_passMonth 25 = .ok (.getfield 30, 3) := by decide +kernel
theorem dX4_passMonth_28 : decode cX4_passMonth 28 = .ok (.ifCond .gt 10, 3) := by decide +kernel
theorem dX4_passMonth_31 : decode cX4_passMonth 31 = .ok (.aload_n 0, 1) := by decide +kernel
theorem dX4_passMonth_32 : decode cX4_passMonth 32 = .ok (.getfield 33, 3) := by decide +kernel
theorem dX4_passMonth_35 : decode cX4_passMonth 35 = .ok (.ifCond .le 12, 3) := by decide +kernel
theorem dX4_passMonth_38 : decode cX4_passMonth 38 = .ok (.aload_n 0, 1) := by decide +kernel
theorem dX4_passMonth_39 : decode cX4_passMonth 39 = .ok (.getfield 36, 3) := by decide +kernel
theorem dX4_passMonth_42 : decode cX4_passMonth 42 = .ok (.iconst 1, 1) := by decide +kernel
theorem dX4_passMonth_43 : decode cX4_passMonth 43 = .ok (.iadd, 1) := by decide +kernel
theorem dX4_passMonth_44 : decode cX4_passMonth 44 = .ok (.goto 4, 3) := by decide +kernel
theorem dX4_passMonth_47 : decode cX4_passMonth 47 = .ok (.iconst 0, 1) := by decide +kernel
theorem dX4_passMonth_48 : decode cX4_passMonth 48 = .ok (.putfield 36, 3) := by decide +kernel
theorem dX4_passMonth_51 : decode cX4_passMonth 51 = .ok (.aload_n 0, 1) := by decide +kernel
theorem dX4_passMonth_52 : decode cX4_passMonth 52 = .ok (.dup, 1) := by decide +kernel
theorem dX4_passMonth_53 : decode cX4_passMonth 53 = .ok (.getfield 30, 3) := by decide +kernel
theorem dX4_passMonth_56 : decode cX4_passMonth 56 = .ok (.aload_n 0, 1) := by decide +kernel
theorem dX4_passMonth_57 : decode cX4_passMonth 57 = .ok (.getfield 24, 3) := by decide +kernel
theorem dX4_passMonth_60 : decode cX4_passMonth 60 = .ok (.aload_n 0, 1) := by decide +kernel
theorem dX4_passMonth_61 : decode cX4_passMonth 61 = .ok (.getfield 18, 3) := by decide +kernel
theorem dX4_passMonth_64 : decode cX4_passMonth 64 = .ok (.imul, 1) := by decide +kernel
theorem dX4_passMonth_65 : decode cX4_passMonth 65 = .ok (.sipush 1000, 3) := by decide +kernel
theorem dX4_passMonth_68 : decode cX4_passMonth 68 = .ok (.idiv, 1) := by decide +kernel
theorem dX4_passMonth_69 : decode cX4_passMonth 69 = .ok (.iadd, 1) := by decide +kernel
theorem dX4_passMonth_70 : decode cX4_passMonth 70 = .ok (.putfield 30, 3) := by decide +kernel
theorem dX4_passMonth_73 : decode cX4_passMonth 73 = .ok (.aload_n 0, 1) := by decide +kernel
theorem dX4_passMonth_74 : decode cX4_passMonth 74 = .ok (.aload_n 0, 1) := by decide +kernel
theorem dX4_passMonth_75 : decode cX4_passMonth 75 = .ok (.getfield 24, 3) := by decide +kernel
theorem dX4_passMonth_78 : decode cX4_passMonth 78 = .ok (.aload_n 0, 1) := by decide +kernel
theorem dX4_passMonth_79 : decode cX4_passMonth 79 = .ok (.getfield 33, 3) := by decide +kernel
theorem dX4_passMonth_82 : decode cX4_passMonth 82 = .ok (.aload_n 0, 1) := by decide +kernel
theorem dX4_passMonth_83 : decode cX4_passMonth 83 = .ok (.getfield 27, 3) := by decide +kernel
theorem dX4_passMonth_86 : decode cX4_passMonth 86 = .ok (.iadd, 1) := by decide +kernel
theorem dX4_passMonth_87 : decode cX4_passMonth 87 = .ok (.invokestatic 49, 3) := by decide +kernel
theorem dX4_passMonth_90 : decode cX4_passMonth 90 = .ok (.putfield 33, 3) := by decide +kernel
theorem dX4_passMonth_93 : decode cX4_passMonth 93 = .ok (.return_, 1) := by decide +kernel
theorem dX4_takePayment_0 : decode cX4_takePayment 0 = .ok (.aload_n 0, 1) := by decide +kernel
theorem dX4_takePayment_1 : decode cX4_takePayment 1 = .ok (.dup, 1) := by decide +kernel
theorem dX4_takePayment_2 : decode cX4_takePayment 2 = .ok (.getfield 30, 3) := by decide +kernel
theorem dX4_takePayment_5 : decode cX4_takePayment 5 = .ok (.iload_n 1, 1) := by decide +kernel
theorem dX4_takePayment_6 : decode cX4_takePayment 6 = .ok (.isub, 1) := by decide +kernel
theorem dX4_takePayment_7 : decode cX4_takePayment 7 = .ok (.putfield 30, 3) := by decide +kernel
theorem dX4_takePayment_10 : decode cX4_takePayment 10 = .ok (.aload_n 0, 1) := by decide +kernel
theorem dX4_takePayment_11 : decode cX4_takePayment 11 = .ok (.dup, 1) := by decide +kernel
theorem dX4_takePayment_12 : decode cX4_takePayment 12 = .ok (.getfield 24, 3) := by decide +kernel
theorem dX4_takePayment_15 : decode cX4_takePayment 15 = .ok (.iload_n 2, 1) := by decide +kernel
theorem dX4_takePayment_16 : decode cX4_takePayment 16 = .ok (.isub, 1) := by decide +kernel
theorem dX4_takePayment_17 : decode cX4_takePayment 17 = .ok (.putfield 24, 3) := by decide +kernel
theorem dX4_takePayment_20 : decode cX4_takePayment 20 = .ok (.aload_n 0, 1) := by decide +kernel
theorem dX4_takePayment_21 : decode cX4_takePayment 21 = .ok (.iconst 0, 1) := by decide +kernel
theorem dX4_takePayment_22 : decode cX4_takePayment 22 = .ok (.aload_n 0, 1) := by decide +kernel
theorem dX4_takePayment_23 : decode cX4_takePayment 23 = .ok (.getfield 33, 3) := by decide +kernel
theorem dX4_takePayment_26 : decode cX4_takePayment 26 = .ok (.iload_n 2, 1) := by decide +kernel
theorem dX4_takePayment_27 : decode cX4_takePayment 27 = .ok (.isub, 1) := by decide +kernel
theorem dX4_takePayment_28 : decode cX4_takePayment 28 = .ok (.invokestatic 54, 3) := by decide +kernel
theorem dX4_takePayment_31 : decode cX4_takePayment 31 = .ok (.putfield 33, 3) := by decide +kernel
theorem dX4_takePayment_34 : decode cX4_takePayment 34 = .ok (.aload_n 0, 1) := by decide +kernel
theorem dX4_takePayment_35 : decode cX4_takePayment 35 = .ok (.getfield 30, 3) := by decide +kernel
theorem dX4_takePayment_38 : decode cX4_takePayment 38 = .ok (.ifCond .ne 15, 3) := by decide +kernel
theorem dX4_takePayment_41 : decode cX4_takePayment 41 = .ok (.aload_n 0, 1) := by decide +kernel
theorem dX4_takePayment_42 : decode cX4_takePayment 42 = .ok (.getfield 33, 3) := by decide +kernel
theorem dX4_takePayment_45 : decode cX4_takePayment 45 = .ok (.ifCond .ne 8, 3) := by decide +kernel
theorem dX4_takePayment_48 : decode cX4_takePayment 48 = .ok (.aload_n 0, 1) := by decide +kernel
theorem dX4_takePayment_49 : decode cX4_takePayment 49 = .ok (.iconst 0, 1) := by decide +kernel
theorem dX4_takePayment_50 : decode cX4_takePayment 50 = .ok (.putfield 36, 3) := by decide +kernel
theorem dX4_takePayment_53 : decode cX4_takePayment 53 = .ok (.aload_n 0, 1) := by decide +kernel
theorem dX4_takePayment_54 : decode cX4_takePayment 54 = .ok (.getfield 30, 3) := by decide +kernel
theorem dX4_takePayment_57 : decode cX4_takePayment 57 = .ok (.ifCond .ne 15, 3) := by decide +kernel
theorem dX4_takePayment_60 : decode cX4_takePayment 60 = .ok (.aload_n 0, 1) := by decide +kernel
theorem dX4_takePayment_61 : decode cX4_takePayment 61 = .ok (.getfield 24, 3) := by decide +kernel
theorem dX4_takePayment_64 : decode cX4_takePayment 64 = .ok (.ifCond .ne 8, 3) := by decide +kernel
theorem dX4_takePayment_67 : decode cX4_takePayment 67 = .ok (.aload_n 0, 1) := by decide +kernel
theorem dX4_takePayment_68 : decode cX4_takePayment 68 = .ok (.iconst 2, 1) := by decide +kernel
theorem dX4_takePayment_69 : decode cX4_takePayment 69 = .ok (.invokevirtual 57, 3) := by decide +kernel
theorem dX4_takePayment_72 : decode cX4_takePayment 72 = .ok (.return_, 1) := by decide +kernel
theorem dX4_copyFrom_0 : decode cX4_copyFrom 0 = .ok (.aload_n 0, 1) := by decide +kernel
theorem dX4_copyFrom_1 : decode cX4_copyFrom 1 = .ok (.aload_n 1, 1) := by decide +kernel
theorem dX4_copyFrom_2 : decode cX4_copyFrom 2 = .ok (.getfield 9, 3) := by decide +kernel
theorem dX4_copyFrom_5 : decode cX4_copyFrom 5 = .ok (.putfield 9, 3) := by decide +kernel
theorem dX4_copyFrom_8 : decode cX4_copyFrom 8 = .ok (.aload_n 0, 1) := by decide +kernel
theorem dX4_copyFrom_9 : decode cX4_copyFrom 9 = .ok (.aload_n 1, 1) := by decide +kernel
theorem dX4_copyFrom_10 : decode cX4_copyFrom 10 = .ok (.getfield 15, 3) := by decide +kernel
theorem dX4_copyFrom_13 : decode cX4_copyFrom 13 = .ok (.putfield 15, 3) := by decide +kernel
theorem dX4_copyFrom_16 : decode cX4_copyFrom 16 = .ok (.aload_n 0, 1) := by decide +kernel
theorem dX4_copyFrom_17 : decode cX4_copyFrom 17 = .ok (.aload_n 1, 1) := by decide +kernel
theorem dX4_copyFrom_18 : decode cX4_copyFrom 18 = .ok (.getfield 18, 3) := by decide +kernel
theorem dX4_copyFrom_21 : decode cX4_copyFrom 21 = .ok (.putfield 18, 3) := by decide +kernel
theorem dX4_copyFrom_24 : decode cX4_copyFrom 24 = .ok (.aload_n 0, 1) := by decide +kernel
theorem dX4_copyFrom_25 : decode cX4_copyFrom 25 = .ok (.aload_n 1, 1) := by decide +kernel
theorem dX4_copyFrom_26 : decode cX4_copyFrom 26 = .ok (.getfield 21, 3) := by decide +kernel
theorem dX4_copyFrom_29 : decode cX4_copyFrom 29 = .ok (.putfield 21, 3) := by decide +kernel
theorem dX4_copyFrom_32 : decode cX4_copyFrom 32 = .ok (.aload_n 0, 1) := by decide +kernel
theorem dX4_copyFrom_33 : decode cX4_copyFrom 33 = .ok (.aload_n 1, 1) := by decide +kernel
theorem dX4_copyFrom_34 : decode cX4_copyFrom 34 = .ok (.getfield 24, 3) := by decide +kernel
theorem dX4_copyFrom_37 : decode cX4_copyFrom 37 = .ok (.putfield 24, 3) := by decide +kernel
theorem dX4_copyFrom_40 : decode cX4_copyFrom 40 = .ok (.aload_n 0, 1) := by decide +kernel
theorem dX4_copyFrom_41 : decode cX4_copyFrom 41 = .ok (.aload_n 1, 1) := by decide +kernel
theorem dX4_copyFrom_42 : decode cX4_copyFrom 42 = .ok (.getfield 27, 3) := by decide +kernel
theorem dX4_copyFrom_45 : decode cX4_copyFrom 45 = .ok (.putfield 27, 3) := by decide +kernel
theorem dX4_copyFrom_48 : decode cX4_copyFrom 48 = .ok (.aload_n 0, 1) := by decide +kernel
theorem dX4_copyFrom_49 : decode cX4_copyFrom 49 = .ok (.aload_n 1, 1) := by decide +kernel
theorem dX4_copyFrom_50 : decode cX4_copyFrom 50 = .ok (.getfield 30, 3) := by decide +kernel
theorem dX4_copyFrom_53 : decode cX4_copyFrom 53 = .ok (.putfield 30, 3) := by decide +kernel
theorem dX4_copyFrom_56 : decode cX4_copyFrom 56 = .ok (.aload_n 0, 1) := by decide +kernel
theorem dX4_copyFrom_57 : decode cX4_copyFrom 57 = .ok (.aload_n 1, 1) := by decide +kernel
theorem dX4_copyFrom_58 : decode cX4_copyFrom 58 = .ok (.getfield 33, 3) := by decide +kernel
theorem dX4_copyFrom_61 : decode cX4_copyFrom 61 = .ok (.putfield 33, 3) := by decide +kernel
theorem dX4_copyFrom_64 : decode cX4_copyFrom 64 = .ok (.aload_n 0, 1) := by decide +kernel
theorem dX4_copyFrom_65 : decode cX4_copyFrom 65 = .ok (.aload_n 1, 1) := by decide +kernel
theorem dX4_copyFrom_66 : decode cX4_copyFrom 66 = .ok (.getfield 36, 3) := by decide +kernel
theorem dX4_copyFrom_69 : decode cX4_copyFrom 69 = .ok (.putfield 36, 3) := by decide +kernel
theorem dX4_copyFrom_72 : decode cX4_copyFrom 72 = .ok (.aload_n 0, 1) := by decide +kernel
theorem dX4_copyFrom_73 : decode cX4_copyFrom 73 = .ok (.aload_n 1, 1) := by decide +kernel
theorem dX4_copyFrom_74 : decode cX4_copyFrom 74 = .ok (.getfield 39, 3) := by decide +kernel
theorem dX4_copyFrom_77 : decode cX4_copyFrom 77 = .ok (.putfield 39, 3) := by decide +kernel
theorem dX4_copyFrom_80 : decode cX4_copyFrom 80 = .ok (.aload_n 0, 1) := by decide +kernel
theorem dX4_copyFrom_81 : decode cX4_copyFrom 81 = .ok (.aload_n 1, 1) := by decide +kernel
theorem dX4_copyFrom_82 : decode cX4_copyFrom 82 = .ok (.getfield 42, 3) := by decide +kernel
theorem dX4_copyFrom_85 : decode cX4_copyFrom 85 = .ok (.putfield 42, 3) := by decide +kernel
theorem dX4_copyFrom_88 : decode cX4_copyFrom 88 = .ok (.return_, 1) := by decide +kernel
theorem dX5_init_0 : decode cX5_init 0 = .ok (.aload_n 0, 1) := by decide +kernel
theorem dX5_init_1 : decode cX5_init 1 = .ok (.invokespecial 3, 3) := by decide +kernel
theorem dX5_init_4 : decode cX5_init 4 = .ok (.aload_n 0, 1) := by decide +kernel
theorem dX5_init_5 : decode cX5_init 5 = .ok (.bipush 8, 2) := by decide +kernel
theorem dX5_init_7 : decode cX5_init 7 = .ok (.anewarray 9, 3) := by decide +kernel
theorem dX5_init_10 : decode cX5_init 10 = .ok (.putfield 11, 3) := by decide +kernel
theorem dX5_init_13 : decode cX5_init 13 = .ok (.aload_n 0, 1) := by decide +kernel
theorem dX5_init_14 : decode cX5_init 14 = .ok (.bipush 10, 2) := by decide +kernel
theorem dX5_init_16 : decode cX5_init 16 = .ok (.anewarray 17, 3) := by decide +kernel
theorem dX5_init_19 : decode cX5_init 19 = .ok (.putfield 19, 3) := by decide +kernel
theorem dX5_init_22 : decode cX5_init 22 = .ok (.aload_n 0, 1) := by decide +kernel
theorem dX5_init_23 : decode cX5_init 23 = .ok (.bipush 60, 2) := by decide +kernel
theorem dX5_init_25 : decode cX5_init 25 = .ok (.anewarray 23, 3) := by decide +kernel
theorem dX5_init_28 : decode cX5_init 28 = .ok (.putfield 25, 3) := by decide +kernel
theorem dX5_init_31 : decode cX5_init 31 = .ok (.aload_n 0, 1) := by decide +kernel
theorem dX5_init_32 : decode cX5_init 32 = .ok (.getstatic 29, 3) := by decide +kernel
theorem dX5_init_35 : decode cX5_init 35 = .ok (.arraylength, 1) := by decide +kernel
theorem dX5_init_36 : decode cX5_init 36 = .ok (.newarray .int, 2) := by decide +kernel
theorem dX5_init_38 : decode cX5_init 38 = .ok (.putfield 33, 3) := by decide +kernel
theorem dX5_init_41 : decode cX5_init 41 = .ok (.aload_n 0, 1) := by decide +kernel
theorem dX5_init_42 : decode cX5_init 42 = .ok (.iconst 0, 1) := by decide +kernel
theorem dX5_init_43 : decode cX5_init 43 = .ok (.putfield 36, 3) := by decide +kernel
theorem dX5_init_46 : decode cX5_init 46 = .ok (.aload_n 0, 1) := by decide +kernel
theorem dX5_init_47 : decode cX5_init 47 = .ok (.iconst 0, 1) := by decide +kernel
theorem dX5_init_48 : decode cX5_init 48 = .ok (.putfield 40, 3) := by decide +kernel
theorem dX5_init_51 : decode cX5_init 51 = .ok (.aload_n 0, 1) := by decide +kernel
theorem dX5_init_52 : decode cX5_init 52 = .ok (.iconst 0, 1) := by decide +kernel
theorem dX5_init_53 : decode cX5_init 53 = .ok (.putfield 43, 3) := by decide +kernel
theorem dX5_init_56 : decode cX5_init 56 = .ok (.aload_n 0, 1) := by decide +kernel
theorem dX5_init_57 : decode cX5_init 57 = .ok (.iconst 0, 1) := by decide +kernel
theorem dX5_init_58 : decode cX5_init 58 = .ok (.putfield 46, 3) := by decide +kernel
theorem dX5_init_61 : decode cX5_init 61 = .ok (.aload_n 0, 1) := by decide +kernel
theorem dX5_init_62 : decode cX5_init 62 = .ok (.iconst 0, 1) := by decide +kernel
theorem dX5_init_63 : decode cX5_init 63 = .ok (.putfield 49, 3) := by decide +kernel
theorem dX5_init_66 : decode cX5_init 66 = .ok (.aload_n 0, 1) := by decide +kernel
theorem dX5_init_67 : decode cX5_init 67 = .ok (.iconst 5, 1) := by decide +kernel
theorem dX5_init_68 : decode cX5_init 68 = .ok (.putfield 52, 3) := by decide +kernel
theorem dX5_init_71 : decode cX5_init 71 = .ok (.iconst 0, 1) := by decide +kernel
theorem dX5_init_72 : decode cX5_init 72 = .ok (.istore_n 1, 1) := by decide +kernel
theorem dX5_init_73 : decode cX5_init 73 = .ok (.iload_n 1, 1) := by decide +kernel
theorem dX5_init_74 : decode cX5_init 74 = .ok (.aload_n 0, 1) := by decide +kernel
theorem dX5_init_75 : decode cX5_init 75 = .ok (.getfield 11, 3) := by decide +kernel
theorem dX5_init_78 : decode cX5_init 78 = .ok (.arraylength, 1) := by decide +kernel
theorem dX5_init_79 : decode cX5_init 79 = .ok (.if_icmp .ge 22, 3) := by decide +kernel
theorem dX5_init_82 : decode cX5_init 82 = .ok (.aload_n 0, 1) := by decide +kernel
theorem dX5_init_83 : decode cX5_init 83 = .ok (.getfield 11, 3) := by decide +kernel
theorem dX5_init_86 : decode cX5_init 86 = .ok (.iload_n 1, 1) := by decide +kernel
theorem dX5_init_87 : decode cX5_init 87 = .ok (.new 9, 3) := by decide +kernel
theorem dX5_init_90 : decode cX5_init 90 = .ok (.dup, 1) := by decide +kernel
theorem dX5_init_91 : decode cX5_init 91 = .ok (.invokespecial 55, 3) := by decide +kernel
theorem dX5_init_94 : decode cX5_init 94 = .ok (.aastore, 1) := by decide +kernel
theorem dX5_init_95 : decode cX5_init 95 = .ok (.iinc 1 1, 3) := by decide +kernel
theorem dX5_init_98 : decode cX5_init 98 = .ok (.goto (-25), 3) := by decide +kernel
theorem dX5_init_101 : decode cX5_init 101 = .ok (.iconst 0, 1) := by decide +kernel
theorem dX5_init_102 : decode cX5_init 102 = .ok (.istore_n 1, 1) := by decide +kernel
theorem dX5_init_103 : decode cX5_init 103 = .ok (.iload_n 1, 1) := by decide +kernel
theorem dX5_init_104 : decode cX5_init 104 = .ok (.aload_n 0, 1) := by decide +kernel
theorem dX5_init_105 : decode cX5_init 105 = .ok (.getfield 19, 3) := by decide +kernel
theorem dX5_init_108 : decode cX5_init 108 = .ok (.arraylength, 1) := by decide +kernel
theorem dX5_init_109 : decode cX5_init 109 = .ok (.if_icmp .ge 22, 3) := by decide +kernel
theorem dX5_init_112 : decode cX5_init 112 = .ok (.aload_n 0, 1) := by decide +kernel
theorem dX5_init_113 : decode cX5_init 113 = .ok (.getfield 19, 3) := by decide +kernel
theorem dX5_init_116 : decode cX5_init 116 = .ok (.iload_n 1, 1) := by decide +kernel
theorem dX5_init_117 : decode cX5_init 117 = .ok (.new 17, 3) := by decide +kernel
theorem dX5_init_120 : decode cX5_init 120 = .ok (.dup, 1) := by decide +kernel
theorem dX5_init_121 : decode cX5_init 121 = .ok (.invokespecial 56, 3) := by decide +kernel
theorem dX5_init_124 : decode cX5_init 124 = .ok (.aastore, 1) := by decide +kernel
theorem dX5_init_125 : decode cX5_init 125 = .ok (.iinc 1 1, 3) := by decide +kernel
theorem dX5_init_128 : decode cX5_init 128 = .ok (.goto (-25), 3) := by decide +kernel
theorem dX5_init_131 : decode cX5_init 131 = .ok (.iconst 0, 1) := by decide +kernel
theorem dX5_init_132 : decode cX5_init 132 = .ok (.istore_n 1, 1) := by decide +kernel
theorem dX5_init_133 : decode cX5_init 133 = .ok (.iload_n 1, 1) := by decide +kernel
theorem dX5_init_134 : decode cX5_init 134 = .ok (.aload_n 0, 1) := by decide +kernel
theorem dX5_init_135 : decode cX5_init 135 = .ok (.getfield 25, 3) := by decide +kernel
theorem dX5_init_138 : decode cX5_init 138 = .ok (.arraylength, 1) := by decide +kernel
theorem dX5_init_139 : decode cX5_init 139 = .ok (.if_icmp .ge 22, 3) := by decide +kernel
theorem dX5_init_142 : decode cX5_init 142 = .ok (.aload_n 0, 1) := by decide +kernel
theorem dX5_init_143 : decode cX5_init 143 = .ok (.getfield 25, 3) := by decide +kernel
theorem dX5_init_146 : decode cX5_init 146 = .ok (.iload_n 1, 1) := by decide +kernel
theorem dX5_init_147 : decode cX5_init 147 = .ok (.new 23, 3) := by decide +kernel
theorem dX5_init_150 : decode cX5_init 150 = .ok (.dup, 1) := by decide +kernel
theorem dX5_init_151 : decode cX5_init 151 = .ok (.invokespecial 57, 3) := by decide +kernel
theorem dX5_init_154 : decode cX5_init 154 = .ok (.aastore, 1) := by decide +kernel
theorem dX5_init_155 : decode cX5_init 155 = .ok (.iinc 1 1, 3) := by decide +kernel
theorem dX5_init_158 : decode cX5_init 158 = .ok (.goto (-25), 3) := by decide +kernel
theorem dX5_init_161 : decode cX5_init 161 = .ok (.return_, 1) := by decide +kernel
theorem dX5_copyFrom_0 : decode cX5_copyFrom 0 = .ok (.iconst 0, 1) := by decide +kernel
theorem dX5_copyFrom_1 : decode cX5_copyFrom 1 = .ok (.istore_n 2, 1) := by decide +kernel
theorem dX5_copyFrom_2 : decode cX5_copyFrom 2 = .ok (.iload_n 2, 1) := by decide +kernel
theorem dX5_copyFrom_3 : decode cX5_copyFrom 3 = .ok (.aload_n 0, 1) := by decide +kernel
theorem dX5_copyFrom_4 : decode cX5_copyFrom 4 = .ok (.getfield 11, 3) := by decide +kernel
theorem dX5_copyFrom_7 : decode cX5_copyFrom 7 = .ok (.arraylength, 1) := by decide +kernel
theorem dX5_copyFrom_8 : decode cX5_copyFrom 8 = .ok (.if_icmp .ge 24, 3) := by decide +kernel
theorem dX5_copyFrom_11 : decode cX5_copyFrom 11 = .ok (.aload_n 0, 1) := by decide +kernel
theorem dX5_copyFrom_12 : decode cX5_copyFrom 12 = .ok (.getfield 11, 3) := by decide +kernel
theorem dX5_copyFrom_15 : decode cX5_copyFrom 15 = .ok (.iload_n 2, 1) := by decide +kernel
theorem dX5_copyFrom_16 : decode cX5_copyFrom 16 = .ok (.aaload, 1) := by decide +kernel
theorem dX5_copyFrom_17 : decode cX5_copyFrom 17 = .ok (.aload_n 1, 1) := by decide +kernel
theorem dX5_copyFrom_18 : decode cX5_copyFrom 18 = .ok (.getfield 11, 3) := by decide +kernel
theorem dX5_copyFrom_21 : decode cX5_copyFrom 21 = .ok (.iload_n 2, 1) := by decide +kernel
theorem dX5_copyFrom_22 : decode cX5_copyFrom 22 = .ok (.aaload, 1) := by decide +kernel
theorem dX5_copyFrom_23 : decode cX5_copyFrom 23 = .ok (.invokevirtual 58, 3) := by decide +kernel
theorem dX5_copyFrom_26 : decode cX5_copyFrom 26 = .ok (.iinc 2 1, 3) := by decide +kernel
theorem dX5_copyFrom_29 : decode cX5_copyFrom 29 = .ok (.goto (-27), 3) := by decide +kernel
theorem dX5_copyFrom_32 : decode cX5_copyFrom 32 = .ok (.iconst 0, 1) := by decide +kernel
theorem dX5_copyFrom_33 : decode cX5_copyFrom 33 = .ok (.istore_n 2, 1) := by decide +kernel
theorem dX5_copyFrom_34 : decode cX5_copyFrom 34 = .ok (.iload_n 2, 1) := by decide +kernel
theorem dX5_copyFrom_35 : decode cX5_copyFrom 35 = .ok (.aload_n 0, 1) := by decide +kernel
theorem dX5_copyFrom_36 : decode cX5_copyFrom 36 = .ok (.getfield 19, 3) := by decide +kernel
theorem dX5_copyFrom_39 : decode cX5_copyFrom 39 = .ok (.arraylength, 1) := by decide +kernel
theorem dX5_copyFrom_40 : decode cX5_copyFrom 40 = .ok (.if_icmp .ge 24, 3) := by decide +kernel
theorem dX5_copyFrom_43 : decode cX5_copyFrom 43 = .ok (.aload_n 0, 1) := by decide +kernel
theorem dX5_copyFrom_44 : decode cX5_copyFrom 44 = .ok (.getfield 19, 3) := by decide +kernel
theorem dX5_copyFrom_47 : decode cX5_copyFrom 47 = .ok (.iload_n 2, 1) := by decide +kernel
theorem dX5_copyFrom_48 : decode cX5_copyFrom 48 = .ok (.aaload, 1) := by decide +kernel
theorem dX5_copyFrom_49 : decode cX5_copyFrom 49 = .ok (.aload_n 1, 1) := by decide +kernel
theorem dX5_copyFrom_50 : decode cX5_copyFrom 50 = .ok (.getfield 19, 3) := by decide +kernel
theorem dX5_copyFrom_53 : decode cX5_copyFrom 53 = .ok (.iload_n 2, 1) := by decide +kernel
theorem dX5_copyFrom_54 : decode cX5_copyFrom 54 = .ok (.aaload, 1) := by decide +kernel
theorem dX5_copyFrom_55 : decode cX5_copyFrom 55 = .ok (.invokevirtual 62, 3) := by decide +kernel
theorem dX5_copyFrom_58 : decode cX5_copyFrom 58 = .ok (.iinc 2 1, 3) := by decide +kernel
theorem dX5_copyFrom_61 : decode cX5_copyFrom 61 = .ok (.goto (-27), 3) := by decide +kernel
theorem dX5_copyFrom_64 : decode cX5_copyFrom 64 = .ok (.iconst 0, 1) := by decide +kernel
theorem dX5_copyFrom_65 : decode cX5_copyFrom 65 = .ok (.istore_n 2, 1) := by decide +kernel
theorem dX5_copyFrom_66 : decode cX5_copyFrom 66 = .ok (.iload_n 2, 1) := by decide +kernel
theorem dX5_copyFrom_67 : decode cX5_copyFrom 67 = .ok (.aload_n 0, 1) := by decide +kernel
theorem dX5_copyFrom_68 : decode cX5_copyFrom 68 = .ok (.getfield 25, 3) := by decide +kernel
theorem dX5_copyFrom_71 : decode cX5_copyFrom 71 = .ok (.arraylength, 1) := by decide +kernel
theorem dX5_copyFrom_72 : decode cX5_copyFrom 72 = .ok (.if_icmp .ge 24, 3) := by decide +kernel
theorem dX5_copyFrom_75 : decode cX5_copyFrom 75 = .ok (.aload_n 0, 1) := by decide +kernel
theorem dX5_copyFrom_76 : decode cX5_copyFrom 76 = .ok (.getfield 25, 3) := by decide +kernel
theorem dX5_copyFrom_79 : decode cX5_copyFrom 79 = .ok (.iload_n 2, 1) := by decide +kernel
theorem dX5_copyFrom_80 : decode cX5_copyFrom 80 = .ok (.aaload, 1) := by decide +kernel
theorem dX5_copyFrom_81 : decode cX5_copyFrom 81 = .ok (.aload_n 1, 1) := by decide +kernel
theorem dX5_copyFrom_82 : decode cX5_copyFrom 82 = .ok (.getfield 25, 3) := by decide +kernel
theorem dX5_copyFrom_85 : decode cX5_copyFrom 85 = .ok (.iload_n 2, 1) := by decide +kernel
theorem dX5_copyFrom_86 : decode cX5_copyFrom 86 = .ok (.aaload, 1) := by decide +kernel
theorem dX5_copyFrom_87 : decode cX5_copyFrom 87 = .ok (.invokevirtual 65, 3) := by decide +kernel
theorem dX5_copyFrom_90 : decode cX5_copyFrom 90 = .ok (.iinc 2 1, 3) := by decide +kernel
theorem dX5_copyFrom_93 : decode cX5_copyFrom 93 = .ok (.goto (-27), 3) := by decide +kernel
theorem dX5_copyFrom_96 : decode cX5_copyFrom 96 = .ok (.iconst 0, 1) := by decide +kernel
theorem dX5_copyFrom_97 : decode cX5_copyFrom 97 = .ok (.istore_n 2, 1) := by decide +kernel
theorem dX5_copyFrom_98 : decode cX5_copyFrom 98 = .ok (.iload_n 2, 1) := by decide +kernel
theorem dX5_copyFrom_99 : decode cX5_copyFrom 99 = .ok (.aload_n 0, 1) := by decide +kernel
theorem dX5_copyFrom_100 : decode cX5_copyFrom 100 = .ok (.getfield 33, 3) := by decide +kernel
theorem dX5_copyFrom_103 : decode cX5_copyFrom 103 = .ok (.arraylength, 1) := by decide +kernel
theorem dX5_copyFrom_104 : decode cX5_copyFrom 104 = .ok (.if_icmp .ge 21, 3) := by decide +kernel
theorem dX5_copyFrom_107 : decode cX5_copyFrom 107 = .ok (.aload_n 0, 1) := by decide +kernel
theorem dX5_copyFrom_108 : decode cX5_copyFrom 108 = .ok (.getfield 33, 3) := by decide +kernel
theorem dX5_copyFrom_111 : decode cX5_copyFrom 111 = .ok (.iload_n 2, 1) := by decide +kernel
theorem dX5_copyFrom_112 : decode cX5_copyFrom 112 = .ok (.aload_n 1, 1) := by decide +kernel
theorem dX5_copyFrom_113 : decode cX5_copyFrom 113 = .ok (.getfield 33, 3) := by decide +kernel
theorem dX5_copyFrom_116 : decode cX5_copyFrom 116 = .ok (.iload_n 2, 1) := by decide +kernel
theorem dX5_copyFrom_117 : decode cX5_copyFrom 117 = .ok (.iaload, 1) := by decide +kernel
theorem dX5_copyFrom_118 : decode cX5_copyFrom 118 = .ok (.iastore, 1) := by decide +kernel
theorem dX5_copyFrom_119 : decode cX5_copyFrom 119 = .ok (.iinc 2 1, 3) := by decide +kernel
theorem dX5_copyFrom_122 : decode cX5_copyFrom 122 = .ok (.goto (-24), 3) := by decide +kernel
theorem dX5_copyFrom_125 : decode cX5_copyFrom 125 = .ok (.aload_n 0, 1) := by decide +kernel
theorem dX5_copyFrom_126 : decode cX5_copyFrom 126 = .ok (.aload_n 1, 1) := by decide +kernel
theorem dX5_copyFrom_127 : decode cX5_copyFrom 127 = .ok (.getfield 36, 3) := by decide +kernel
theorem dX5_copyFrom_130 : decode cX5_copyFrom 130 = .ok (.putfield 36, 3) := by decide +kernel
theorem dX5_copyFrom_133 : decode cX5_copyFrom 133 = .ok (.aload_n 0, 1) := by decide +kernel
theorem dX5_copyFrom_134 : decode cX5_copyFrom 134 = .ok (.aload_n 1, 1) := by decide +kernel
theorem dX5_copyFrom_135 : decode cX5_copyFrom 135 = .ok (.getfield 40, 3) := by decide +kernel
theorem dX5_copyFrom_138 : decode cX5_copyFrom 138 = .ok (.putfield 40, 3) := by decide +kernel
theorem dX5_copyFrom_141 : decode cX5_copyFrom 141 = .ok (.aload_n 0, 1) := by decide +kernel
theorem dX5_copyFrom_142 : decode cX5_copyFrom 142 = .ok (.aload_n 1, 1) := by decide +kernel
theorem dX5_copyFrom_143 : decode cX5_copyFrom 143 = .ok (.getfield 43, 3) := by decide +kernel
theorem dX5_copyFrom_146 : decode cX5_copyFrom 146 = .ok (.putfield 43, 3) := by decide +kernel
theorem dX5_copyFrom_149 : decode cX5_copyFrom 149 = .ok (.aload_n 0, 1) := by decide +kernel
theorem dX5_copyFrom_150 : decode cX5_copyFrom 150 = .ok (.aload_n 1, 1) := by decide +kernel
theorem dX5_copyFrom_151 : decode cX5_copyFrom 151 = .ok (.getfield 46, 3) := by decide +kernel
theorem dX5_copyFrom_154 : decode cX5_copyFrom 154 = .ok (.putfield 46, 3) := by decide +kernel
theorem dX5_copyFrom_157 : decode cX5_copyFrom 157 = .ok (.aload_n 0, 1) := by decide +kernel
theorem dX5_copyFrom_158 : decode cX5_copyFrom 158 = .ok (.aload_n 1, 1) := by decide +kernel
theorem dX5_copyFrom_159 : decode cX5_copyFrom 159 = .ok (.getfield 49, 3) := by decide +kernel
theorem dX5_copyFrom_162 : decode cX5_copyFrom 162 = .ok (.putfield 49, 3) := by decide +kernel
theorem dX5_copyFrom_165 : decode cX5_copyFrom 165 = .ok (.aload_n 0, 1) := by decide +kernel
theorem dX5_copyFrom_166 : decode cX5_copyFrom 166 = .ok (.aload_n 1, 1) := by decide +kernel
theorem dX5_copyFrom_167 : decode cX5_copyFrom 167 = .ok (.getfield 52, 3) := by decide +kernel
theorem dX5_copyFrom_170 : decode cX5_copyFrom 170 = .ok (.putfield 52, 3) := by decide +kernel
theorem dX5_copyFrom_173 : decode cX5_copyFrom 173 = .ok (.return_, 1) := by decide +kernel
theorem dX5_hasInvestor_0 : decode cX5_hasInvestor 0 = .ok (.iload_n 1, 1) := by decide +kernel
theorem dX5_hasInvestor_1 : decode cX5_hasInvestor 1 = .ok (.ifCond .lt 15, 3) := by decide +kernel
theorem dX5_hasInvestor_4 : decode cX5_hasInvestor 4 = .ok (.iload_n 1, 1) := by decide +kernel
theorem dX5_hasInvestor_5 : decode cX5_hasInvestor 5 = .ok (.aload_n 0, 1) := by decide +kernel
theorem dX5_hasInvestor_6 : decode cX5_hasInvestor 6 = .ok (.getfield 36, 3) := by decide +kernel
theorem dX5_hasInvestor_9 : decode cX5_hasInvestor 9 = .ok (.if_icmp .ge 7, 3) := by decide +kernel
theorem dX5_hasInvestor_12 : decode cX5_hasInvestor 12 = .ok (.iconst 1, 1) := by decide +kernel
theorem dX5_hasInvestor_13 : decode cX5_hasInvestor 13 = .ok (.goto 4, 3) := by decide +kernel
theorem dX5_hasInvestor_16 : decode cX5_hasInvestor 16 = .ok (.iconst 0, 1) := by decide +kernel
theorem dX5_hasInvestor_17 : decode cX5_hasInvestor 17 = .ok (.ireturn, 1) := by decide +kernel
theorem dX5_hasLoan_0 : decode cX5_hasLoan 0 = .ok (.iload_n 1, 1) := by decide +kernel
theorem dX5_hasLoan_1 : decode cX5_hasLoan 1 = .ok (.ifCond .lt 15, 3) := by decide +kernel
theorem dX5_hasLoan_4 : decode cX5_hasLoan 4 = .ok (.iload_n 1, 1) := by decide +kernel
theorem dX5_hasLoan_5 : decode cX5_hasLoan 5 = .ok (.aload_n 0, 1) := by decide +kernel
theorem dX5_hasLoan_6 : decode cX5_hasLoan 6 = .ok (.getfield 40, 3) := by decide +kernel
theorem dX5_hasLoan_9 : decode cX5_hasLoan 9 = .ok (.if_icmp .ge 7, 3) := by decide +kernel
theorem dX5_hasLoan_12 : decode cX5_hasLoan 12 = .ok (.iconst 1, 1) := by decide +kernel
theorem dX5_hasLoan_13 : decode cX5_hasLoan 13 = .ok (.goto 4, 3) := by decide +kernel
theorem dX5_hasLoan_16 : decode cX5_hasLoan 16 = .ok (.iconst 0, 1) := by decide +kernel
theorem dX5_hasLoan_17 : decode cX5_hasLoan 17 = .ok (.ireturn, 1) := by decide +kernel
theorem dX5_hasNote_0 : decode cX5_hasNote 0 = .ok (.iload_n 1, 1) := by decide +kernel
theorem dX5_hasNote_1 : decode cX5_hasNote 1 = .ok (.ifCond .lt 15, 3) := by decide +kernel
theorem dX5_hasNote_4 : decode cX5_hasNote 4 = .ok (.iload_n 1, 1) := by decide +kernel
theorem dX5_hasNote_5 : decode cX5_hasNote 5 = .ok (.aload_n 0, 1) := by decide +kernel
theorem dX5_hasNote_6 : decode cX5_hasNote 6 = .ok (.getfield 43, 3) := by decide +kernel
theorem dX5_hasNote_9 : decode cX5_hasNote 9 = .ok (.if_icmp .ge 7, 3) := by decide +kernel
theorem dX5_hasNote_12 : decode cX5_hasNote 12 = .ok (.iconst 1, 1) := by decide +kernel
theorem dX5_hasNote_13 : decode cX5_hasNote 13 = .ok (.goto 4, 3) := by decide +kernel
theorem dX5_hasNote_16 : decode cX5_hasNote 16 = .ok (.iconst 0, 1) := by decide +kernel
theorem dX5_hasNote_17 : decode cX5_hasNote 17 = .ok (.ireturn, 1) := by decide +kernel
theorem dX5_runs_0 : decode cX5_runs 0 = .ok (.aload_n 0, 1) := by decide +kernel
theorem dX5_runs_1 : decode cX5_runs 1 = .ok (.iload_n 1, 1) := by decide +kernel
theorem dX5_runs_2 : decode cX5_runs 2 = .ok (.invokevirtual 68, 3) := by decide +kernel
theorem dX5_runs_5 : decode cX5_runs 5 = .ok (.ifCond .eq 20, 3) := by decide +kernel
theorem dX5_runs_8 : decode cX5_runs 8 = .ok (.aload_n 0, 1) := by decide +kernel
theorem dX5_runs_9 : decode cX5_runs 9 = .ok (.getfield 19, 3) := by decide +kernel
theorem dX5_runs_12 : decode cX5_runs 12 = .ok (.iload_n 1, 1) := by decide +kernel
theorem dX5_runs_13 : decode cX5_runs 13 = .ok (.aaload, 1) := by decide +kernel
theorem dX5_runs_14 : decode cX5_runs 14 = .ok (.getfield 72, 3) := by decide +kernel
theorem dX5_runs_17 : decode cX5_runs 17 = .ok (.iconst 1, 1) := by decide +kernel
theorem dX5_runs_18 : decode cX5_runs 18 = .ok (.if_icmp .ne 7, 3) := by decide +kernel
theorem dX5_runs_21 : decode cX5_runs 21 = .ok (.iconst 1, 1) := by decide +kernel
theorem dX5_runs_22 : decode cX5_runs 22 = .ok (.goto 4, 3) := by decide +kernel
theorem dX5_runs_25 : decode cX5_runs 25 = .ok (.iconst 0, 1) := by decide +kernel
theorem dX5_runs_26 : decode cX5_runs 26 = .ok (.ireturn, 1) := by decide +kernel
theorem dX5_cashOf_0 : decode cX5_cashOf 0 = .ok (.aload_n 0, 1) := by decide +kernel
theorem dX5_cashOf_1 : decode cX5_cashOf 1 = .ok (.iload_n 1, 1) := by decide +kernel
theorem dX5_cashOf_2 : decode cX5_cashOf 2 = .ok (.invokevirtual 75, 3) := by decide +kernel
theorem dX5_cashOf_5 : decode cX5_cashOf 5 = .ok (.ifCond .eq 15, 3) := by decide +kernel
theorem dX5_cashOf_8 : decode cX5_cashOf 8 = .ok (.aload_n 0, 1) := by decide +kernel
theorem dX5_cashOf_9 : decode cX5_cashOf 9 = .ok (.getfield 11, 3) := by decide +kernel
theorem dX5_cashOf_12 : decode cX5_cashOf 12 = .ok (.iload_n 1, 1) := by decide +kernel
theorem dX5_cashOf_13 : decode cX5_cashOf 13 = .ok (.aaload, 1) := by decide +kernel
theorem dX5_cashOf_14 : decode cX5_cashOf 14 = .ok (.getfield 78, 3) := by decide +kernel
theorem dX5_cashOf_17 : decode cX5_cashOf 17 = .ok (.goto 4, 3) := by decide +kernel
theorem dX5_cashOf_20 : decode cX5_cashOf 20 = .ok (.iconst 0, 1) := by decide +kernel
theorem dX5_cashOf_21 : decode cX5_cashOf 21 = .ok (.ireturn, 1) := by decide +kernel
theorem dX5_give_0 : decode cX5_give 0 = .ok (.aload_n 0, 1) := by decide +kernel
theorem dX5_give_1 : decode cX5_give 1 = .ok (.iload_n 1, 1) := by decide +kernel
theorem dX5_give_2 : decode cX5_give 2 = .ok (.invokevirtual 75, 3) := by decide +kernel
theorem dX5_give_5 : decode cX5_give 5 = .ok (.ifCond .eq 18, 3) := by decide +kernel
theorem dX5_give_8 : decode cX5_give 8 = .ok (.aload_n 0, 1) := by decide +kernel
theorem dX5_give_9 : decode cX5_give 9 = .ok (.getfield 11, 3) := by decide +kernel
theorem dX5_give_12 : decode cX5_give 12 = .ok (.iload_n 1, 1) := by decide +kernel
theorem dX5_give_13 : decode cX5_give 13 = .ok (.aaload, 1) := by decide +kernel
theorem dX5_give_14 : decode cX5_give 14 = .ok (.dup, 1) := by decide +kernel
theorem dX5_give_15 : decode cX5_give 15 = .ok (.getfield 78, 3) := by decide +kernel
theorem dX5_give_18 : decode cX5_give 18 = .ok (.iload_n 2, 1) := by decide +kernel
theorem dX5_give_19 : decode cX5_give 19 = .ok (.iadd, 1) := by decide +kernel
theorem dX5_give_20 : decode cX5_give 20 = .ok (.putfield 78, 3) := by decide +kernel
theorem dX5_give_23 : decode cX5_give 23 = .ok (.return_, 1) := by decide +kernel
theorem dX5_fundingError_0 : decode cX5_fundingError 0 = .ok (.aload_n 0, 1) := by decide +kernel
theorem dX5_fundingError_1 : decode cX5_fundingError 1 = .ok (.iload_n 1, 1) := by decide +kernel
theorem dX5_fundingError_2 : decode cX5_fundingError 2 = .ok (.invokevirtual 75, 3) := by decide +kernel
theorem dX5_fundingError_5 : decode cX5_fundingError 5 = .ok (.ifCond .eq 11, 3) := by decide +kernel
theorem dX5_fundingError_8 : decode cX5_fundingError 8 = .ok (.aload_n 0, 1) := by decide +kernel
theorem dX5_fundingError_9 : decode cX5_fundingError 9 = .ok (.iload_n 2, 1) := by decide +kernel
theorem dX5_fundingError_10 : decode cX5_fundingError 10 = .ok (.invokevirtual 68, 3) := by decide +kernel
theorem dX5_fundingError_13 : decode cX5_fundingError 13 = .ok (.ifCond .ne 5, 3) := by decide +kernel
theorem dX5_fundingError_16 : decode cX5_fundingError 16 = .ok (.iconst (-1), 1) := by decide +kernel
theorem dX5_fundingError_17 : decode cX5_fundingError 17 = .ok (.ireturn, 1) := by decide +kernel
theorem dX5_fundingError_18 : decode cX5_fundingError 18 = .ok (.iload_n 3, 1) := by decide +kernel
theorem dX5_fundingError_19 : decode cX5_fundingError 19 = .ok (.iconst 1, 1) := by decide +kernel
theorem dX5_fundingError_20 : decode cX5_fundingError 20 = .ok (.if_icmp .lt 9, 3) := by decide +kernel
theorem dX5_fundingError_23 : decode cX5_fundingError 23 = .ok (.iload_n 3, 1) := by decide +kernel
theorem dX5_fundingError_24 : decode cX5_fundingError 24 = .ok (.ldc 81, 2) := by decide +kernel
theorem dX5_fundingError_26 : decode cX5_fundingError 26 = .ok (.if_icmp .le 6, 3) := by decide +kernel
theorem dX5_fundingError_29 : decode cX5_fundingError 29 = .ok (.bipush (-2), 2) := by decide +kernel
theorem dX5_fundingError_31 : decode cX5_fundingError 31 = .ok (.ireturn, 1) := by decide +kernel
theorem dX5_fundingError_32 : decode cX5_fundingError 32 = .ok (.aload_n 0, 1) := by decide +kernel
theorem dX5_fundingError_33 : decode cX5_fundingError 33 = .ok (.getfield 19, 3) := by decide +kernel
theorem dX5_fundingError_36 : decode cX5_fundingError 36 = .ok (.iload_n 2, 1) := by decide +kernel
theorem dX5_fundingError_37 : decode cX5_fundingError 37 = .ok (.aaload, 1) := by decide +kernel
theorem dX5_fundingError_38 : decode cX5_fundingError 38 = .ok (.getfield 72, 3) := by decide +kernel
theorem dX5_fundingError_41 : decode cX5_fundingError 41 = .ok (.ifCond .ne 25, 3) := by decide +kernel
theorem dX5_fundingError_44 : decode cX5_fundingError 44 = .ok (.iload_n 3, 1) := by decide +kernel
theorem dX5_fundingError_45 : decode cX5_fundingError 45 = .ok (.aload_n 0, 1) := by decide +kernel
theorem dX5_fundingError_46 : decode cX5_fundingError 46 = .ok (.iload_n 2, 1) := by decide +kernel
theorem dX5_fundingError_47 : decode cX5_fundingError 47 = .ok (.invokevirtual 82, 3) := by decide +kernel
theorem dX5_fundingError_50 : decode cX5_fundingError 50 = .ok (.if_icmp .gt 16, 3) := by decide +kernel
theorem dX5_fundingError_53 : decode cX5_fundingError 53 = .ok (.iload_n 3, 1) := by decide +kernel
theorem dX5_fundingError_54 : decode cX5_fundingError 54 = .ok (.aload_n 0, 1) := by decide +kernel
theorem dX5_fundingError_55 : decode cX5_fundingError 55 = .ok (.getfield 11, 3) := by decide +kernel
theorem dX5_fundingError_58 : decode cX5_fundingError 58 = .ok (.iload_n 1, 1) := by decide +kernel
theorem dX5_fundingError_59 : decode cX5_fundingError 59 = .ok (.aaload, 1) := by decide +kernel
theorem dX5_fundingError_60 : decode cX5_fundingError 60 = .ok (.getfield 78, 3) := by decide +kernel
theorem dX5_fundingError_63 : decode cX5_fundingError 63 = .ok (.if_icmp .le 6, 3) := by decide +kernel
theorem dX5_fundingError_66 : decode cX5_fundingError 66 = .ok (.bipush (-4), 2) := by decide +kernel
theorem dX5_fundingError_68 : decode cX5_fundingError 68 = .ok (.ireturn, 1) := by decide +kernel
theorem dX5_fundingError_69 : decode cX5_fundingError 69 = .ok (.aload_n 0, 1) := by decide +kernel
theorem dX5_fundingError_70 : decode cX5_fundingError 70 = .ok (.getfield 43, 3) := by decide +kernel
theorem dX5_fundingError_73 : decode cX5_fundingError 73 = .ok (.bipush 60, 2) := by decide +kernel
theorem dX5_fundingError_75 : decode cX5_fundingError 75 = .ok (.if_icmp .lt 8, 3) := by decide +kernel
theorem dX5_fundingError_78 : decode cX5_fundingError 78 = .ok (.bipush (-3), 2) := by decide +kernel
theorem dX5_fundingError_80 : decode cX5_fundingError 80 = .ok (.goto 4, 3) := by decide +kernel
theorem dX5_fundingError_83 : decode cX5_fundingError 83 = .ok (.iconst 0, 1) := by decide +kernel
theorem dX5_fundingError_84 : decode cX5_fundingError 84 = .ok (.ireturn, 1) := by decide +kernel
theorem dX5_addNote_0 : decode cX5_addNote 0 = .ok (.aload_n 0, 1) := by decide +kernel
theorem dX5_addNote_1 : decode cX5_addNote 1 = .ok (.iload_n 1, 1) := by decide +kernel
theorem dX5_addNote_2 : decode cX5_addNote 2 = .ok (.iload_n 2, 1) := by decide +kernel
theorem dX5_addNote_3 : decode cX5_addNote 3 = .ok (.iload 4, 2) := by decide +kernel
theorem dX5_addNote_5 : decode cX5_addNote 5 = .ok (.invokevirtual 86, 3) := by decide +kernel
theorem dX5_addNote_8 : decode cX5_addNote 8 = .ok (.ifCond .eq 4, 3) := by decide +kernel
theorem dX5_addNote_11 : decode cX5_addNote 11 = .ok (.return_, 1) := by decide +kernel
theorem dX5_addNote_12 : decode cX5_addNote 12 = .ok (.aload_n 0, 1) := by decide +kernel
theorem dX5_addNote_13 : decode cX5_addNote 13 = .ok (.getfield 25, 3) := by decide +kernel
theorem dX5_addNote_16 : decode cX5_addNote 16 = .ok (.aload_n 0, 1) := by decide +kernel
theorem dX5_addNote_17 : decode cX5_addNote 17 = .ok (.getfield 43, 3) := by decide +kernel
theorem dX5_addNote_20 : decode cX5_addNote 20 = .ok (.aaload, 1) := by decide +kernel
theorem dX5_addNote_21 : decode cX5_addNote 21 = .ok (.iload_n 1, 1) := by decide +kernel
theorem dX5_addNote_22 : decode cX5_addNote 22 = .ok (.iload_n 2, 1) := by decide +kernel
theorem dX5_addNote_23 : decode cX5_addNote 23 = .ok (.iload_n 3, 1) := by decide +kernel
theorem dX5_addNote_24 : decode cX5_addNote 24 = .ok (.iload 4, 2) := by decide +kernel
theorem dX5_addNote_26 : decode cX5_addNote 26 = .ok (.invokevirtual 90, 3) := by decide +kernel
theorem dX5_addNote_29 : decode cX5_addNote 29 = .ok (.aload_n 0, 1) := by decide +kernel
theorem dX5_addNote_30 : decode cX5_addNote 30 = .ok (.dup, 1) := by decide +kernel
theorem dX5_addNote_31 : decode cX5_addNote 31 = .ok (.getfield 43, 3) := by decide +kernel
theorem dX5_addNote_34 : decode cX5_addNote 34 = .ok (.iconst 1, 1) := by decide +kernel
theorem dX5_addNote_35 : decode cX5_addNote 35 = .ok (.iadd, 1) := by decide +kernel
theorem dX5_addNote_36 : decode cX5_addNote 36 = .ok (.putfield 43, 3) := by decide +kernel
theorem dX5_addNote_39 : decode cX5_addNote 39 = .ok (.aload_n 0, 1) := by decide +kernel
theorem dX5_addNote_40 : decode cX5_addNote 40 = .ok (.iload_n 1, 1) := by decide +kernel
theorem dX5_addNote_41 : decode cX5_addNote 41 = .ok (.iload 4, 2) := by decide +kernel
theorem dX5_addNote_43 : decode cX5_addNote 43 = .ok (.ineg, 1) := by decide +kernel
theorem dX5_addNote_44 : decode cX5_addNote 44 = .ok (.invokevirtual 94, 3) := by decide +kernel
theorem dX5_addNote_47 : decode cX5_addNote 47 = .ok (.aload_n 0, 1) := by decide +kernel
theorem dX5_addNote_48 : decode cX5_addNote 48 = .ok (.iload_n 2, 1) := by decide +kernel
theorem dX5_addNote_49 : decode cX5_addNote 49 = .ok (.invokevirtual 82, 3) := by decide +kernel
theorem dX5_addNote_52 : decode cX5_addNote 52 = .ok (.ifCond .ne 12, 3) := by decide +kernel
theorem dX5_addNote_55 : decode cX5_addNote 55 = .ok (.aload_n 0, 1) := by decide +kernel
theorem dX5_addNote_56 : decode cX5_addNote 56 = .ok (.getfield 19, 3) := by decide +kernel
theorem dX5_addNote_59 : decode cX5_addNote 59 = .ok (.iload_n 2, 1) := by decide +kernel
theorem dX5_addNote_60 : decode cX5_addNote 60 = .ok (.aaload, 1) := by decide +kernel
theorem dX5_addNote_61 : decode cX5_addNote 61 = .ok (.invokevirtual 98, 3) := by decide +kernel
theorem dX5_addNote_64 : decode cX5_addNote 64 = .ok (.return_, 1) := by decide +kernel
theorem dX5_takePayment_0 : decode cX5_takePayment 0 = .ok (.aload_n 0, 1) := by decide +kernel
theorem dX5_takePayment_1 : decode cX5_takePayment 1 = .ok (.iload_n 1, 1) := by decide +kernel
theorem dX5_takePayment_2 : decode cX5_takePayment 2 = .ok (.invokevirtual 68, 3) := by decide +kernel
theorem dX5_takePayment_5 : decode cX5_takePayment 5 = .ok (.ifCond .ne 4, 3) := by decide +kernel
theorem dX5_takePayment_8 : decode cX5_takePayment 8 = .ok (.return_, 1) := by decide +kernel
theorem dX5_takePayment_9 : decode cX5_takePayment 9 = .ok (.aload_n 0, 1) := by decide +kernel
theorem dX5_takePayment_10 : decode cX5_takePayment 10 = .ok (.getfield 19, 3) := by decide +kernel
theorem dX5_takePayment_13 : decode cX5_takePayment 13 = .ok (.iload_n 1, 1) := by decide +kernel
theorem dX5_takePayment_14 : decode cX5_takePayment 14 = .ok (.aaload, 1) := by decide +kernel
theorem dX5_takePayment_15 : decode cX5_takePayment 15 = .ok (.getfield 101, 3) := by decide +kernel
theorem dX5_takePayment_18 : decode cX5_takePayment 18 = .ok (.istore_n 3, 1) := by decide +kernel
theorem dX5_takePayment_19 : decode cX5_takePayment 19 = .ok (.iload_n 3, 1) := by decide +kernel
theorem dX5_takePayment_20 : decode cX5_takePayment 20 = .ok (.invokestatic 104, 3) := by decide +kernel
theorem dX5_takePayment_23 : decode cX5_takePayment 23 = .ok (.ifCond .eq 16, 3) := by decide +kernel
theorem dX5_takePayment_26 : decode cX5_takePayment 26 = .ok (.aload_n 0, 1) := by decide +kernel
theorem dX5_takePayment_27 : decode cX5_takePayment 27 = .ok (.getfield 33, 3) := by decide +kernel
theorem dX5_takePayment_30 : decode cX5_takePayment 30 = .ok (.iload_n 3, 1) := by decide +kernel
theorem dX5_takePayment_31 : decode cX5_takePayment 31 = .ok (.dup2, 1) := by decide +kernel
theorem dX5_takePayment_32 : decode cX5_takePayment 32 = .ok (.iaload, 1) := by decide +kernel
theorem dX5_takePayment_33 : decode cX5_takePayment 33 = .ok (.aload_n 2, 1) := by decide +kernel
theorem dX5_takePayment_34 : decode cX5_takePayment 34 = .ok (.getfield 107, 3) := by decide +kernel
theorem dX5_takePayment_37 : decode cX5_takePayment 37 = .ok (.iadd, 1) := by decide +kernel
theorem dX5_takePayment_38 : decode cX5_takePayment 38 = .ok (.iastore, 1) := by decide +kernel
theorem dX5_takePayment_39 : decode cX5_takePayment 39 = .ok (.aload_n 0, 1) := by decide +kernel
theorem dX5_takePayment_40 : decode cX5_takePayment 40 = .ok (.dup, 1) := by decide +kernel
theorem dX5_takePayment_41 : decode cX5_takePayment 41 = .ok (.getfield 49, 3) := by decide +kernel
theorem dX5_takePayment_44 : decode cX5_takePayment 44 = .ok (.aload_n 2, 1) := by decide +kernel
theorem dX5_takePayment_45 : decode cX5_takePayment 45 = .ok (.getfield 112, 3) := by decide +kernel
theorem dX5_takePayment_48 : decode cX5_takePayment 48 = .ok (.iadd, 1) := by decide +kernel
theorem dX5_takePayment_49 : decode cX5_takePayment 49 = .ok (.putfield 49, 3) := by decide +kernel
theorem dX5_takePayment_52 : decode cX5_takePayment 52 = .ok (.aload_n 0, 1) := by decide +kernel
theorem dX5_takePayment_53 : decode cX5_takePayment 53 = .ok (.getfield 19, 3) := by decide +kernel
theorem dX5_takePayment_56 : decode cX5_takePayment 56 = .ok (.iload_n 1, 1) := by decide +kernel
theorem dX5_takePayment_57 : decode cX5_takePayment 57 = .ok (.aaload, 1) := by decide +kernel
theorem dX5_takePayment_58 : decode cX5_takePayment 58 = .ok (.aload_n 2, 1) := by decide +kernel
theorem dX5_takePayment_59 : decode cX5_takePayment 59 = .ok (.getfield 115, 3) := by decide +kernel
theorem dX5_takePayment_62 : decode cX5_takePayment 62 = .ok (.aload_n 2, 1) := by decide +kernel
theorem dX5_takePayment_63 : decode cX5_takePayment 63 = .ok (.getfield 118, 3) := by decide +kernel
theorem dX5_takePayment_66 : decode cX5_takePayment 66 = .ok (.invokevirtual 121, 3) := by decide +kernel
theorem dX5_takePayment_69 : decode cX5_takePayment 69 = .ok (.return_, 1) := by decide +kernel
theorem dX5_writeOff_0 : decode cX5_writeOff 0 = .ok (.iconst 0, 1) := by decide +kernel
theorem dX5_writeOff_1 : decode cX5_writeOff 1 = .ok (.istore_n 2, 1) := by decide +kernel
theorem dX5_writeOff_2 : decode cX5_writeOff 2 = .ok (.iconst 0, 1) := by decide +kernel
theorem dX5_writeOff_3 : decode cX5_writeOff 3 = .ok (.istore_n 3, 1) := by decide +kernel
theorem dX5_writeOff_4 : decode cX5_writeOff 4 = .ok (.iload_n 3, 1) := by decide +kernel
theorem dX5_writeOff_5 : decode cX5_writeOff 5 = .ok (.aload_n 0, 1) := by decide +kernel
theorem dX5_writeOff_6 : decode cX5_writeOff 6 = .ok (.getfield 43, 3) := by decide +kernel
theorem dX5_writeOff_9 : decode cX5_writeOff 9 = .ok (.if_icmp .ge 85, 3) := by decide +kernel
theorem dX5_writeOff_12 : decode cX5_writeOff 12 = .ok (.aload_n 0, 1) := by decide +kernel
theorem dX5_writeOff_13 : decode cX5_writeOff 13 = .ok (.getfield 25, 3) := by decide +kernel
theorem dX5_writeOff_16 : decode cX5_writeOff 16 = .ok (.iload_n 3, 1) := by decide +kernel
theorem dX5_writeOff_17 : decode cX5_writeOff 17 = .ok (.aaload, 1) := by decide +kernel
theorem dX5_writeOff_18 : decode cX5_writeOff 18 = .ok (.astore 4, 2) := by decide +kernel
theorem dX5_writeOff_20 : decode cX5_writeOff 20 = .ok (.aload 4, 2) := by decide +kernel
theorem dX5_writeOff_22 : decode cX5_writeOff 22 = .ok (.getfield 124, 3) := by decide +kernel
theorem dX5_writeOff_25 : decode cX5_writeOff 25 = .ok (.iload_n 1, 1) := by decide +kernel
theorem dX5_writeOff_26 : decode cX5_writeOff 26 = .ok (.if_icmp .ne 62, 3) := by decide +kernel
theorem dX5_writeOff_29 : decode cX5_writeOff 29 = .ok (.aload 4, 2) := by decide +kernel
theorem dX5_writeOff_31 : decode cX5_writeOff 31 = .ok (.aload 4, 2) := by decide +kernel
theorem dX5_writeOff_33 : decode cX5_writeOff 33 = .ok (.getfield 127, 3) := by decide +kernel
theorem dX5_writeOff_36 : decode cX5_writeOff 36 = .ok (.putfield 128, 3) := by decide +kernel
theorem dX5_writeOff_39 : decode cX5_writeOff 39 = .ok (.aload 4, 2) := by decide +kernel
theorem dX5_writeOff_41 : decode cX5_writeOff 41 = .ok (.iconst 0, 1) := by decide +kernel
theorem dX5_writeOff_42 : decode cX5_writeOff 42 = .ok (.putfield 127, 3) := by decide +kernel
theorem dX5_writeOff_45 : decode cX5_writeOff 45 = .ok (.iload_n 2, 1) := by decide +kernel
theorem dX5_writeOff_46 : decode cX5_writeOff 46 = .ok (.aload 4, 2) := by decide +kernel
theorem dX5_writeOff_48 : decode cX5_writeOff 48 = .ok (.getfield 128, 3) := by decide +kernel
theorem dX5_writeOff_51 : decode cX5_writeOff 51 = .ok (.iadd, 1) := by decide +kernel
theorem dX5_writeOff_52 : decode cX5_writeOff 52 = .ok (.istore_n 2, 1) := by decide +kernel
theorem dX5_writeOff_53 : decode cX5_writeOff 53 = .ok (.aload_n 0, 1) := by decide +kernel
theorem dX5_writeOff_54 : decode cX5_writeOff 54 = .ok (.aload 4, 2) := by decide +kernel
theorem dX5_writeOff_56 : decode cX5_writeOff 56 = .ok (.getfield 131, 3) := by decide +kernel
theorem dX5_writeOff_59 : decode cX5_writeOff 59 = .ok (.invokevirtual 75, 3) := by decide +kernel
theorem dX5_writeOff_62 : decode cX5_writeOff 62 = .ok (.ifCond .eq 26, 3) := by decide +kernel
theorem dX5_writeOff_65 : decode cX5_writeOff 65 = .ok (.aload_n 0, 1) := by decide +kernel
theorem dX5_writeOff_66 : decode cX5_writeOff 66 = .ok (.getfield 11, 3) := by decide +kernel
theorem dX5_writeOff_69 : decode cX5_writeOff 69 = .ok (.aload 4, 2) := by decide +kernel
theorem dX5_writeOff_71 : decode cX5_writeOff 71 = .ok (.getfield 131, 3) := by decide +kernel
theorem dX5_writeOff_74 : decode cX5_writeOff 74 = .ok (.aaload, 1) := by decide +kernel
theorem dX5_writeOff_75 : decode cX5_writeOff 75 = .ok (.dup, 1) := by decide +kernel
theorem dX5_writeOff_76 : decode cX5_writeOff 76 = .ok (.getfield 134, 3) := by decide +kernel
theorem dX5_writeOff_79 : decode cX5_writeOff 79 = .ok (.aload 4, 2) := by decide +kernel
theorem dX5_writeOff_81 : decode cX5_writeOff 81 = .ok (.getfield 128, 3) := by decide +kernel
theorem dX5_writeOff_84 : decode cX5_writeOff 84 = .ok (.iadd, 1) := by decide +kernel
theorem dX5_writeOff_85 : decode cX5_writeOff 85 = .ok (.putfield 134, 3) := by decide +kernel
theorem dX5_writeOff_88 : decode cX5_writeOff 88 = .ok (.iinc 3 1, 3) := by decide +kernel
theorem dX5_writeOff_91 : decode cX5_writeOff 91 = .ok (.goto (-87), 3) := by decide +kernel
theorem dX5_writeOff_94 : decode cX5_writeOff 94 = .ok (.iload_n 2, 1) := by decide +kernel
theorem dX5_writeOff_95 : decode cX5_writeOff 95 = .ok (.ireturn, 1) := by decide +kernel
theorem dX5_passMonth_0 : decode cX5_passMonth 0 = .ok (.aload_n 0, 1) := by decide +kernel
theorem dX5_passMonth_1 : decode cX5_passMonth 1 = .ok (.dup, 1) := by decide +kernel
theorem dX5_passMonth_2 : decode cX5_passMonth 2 = .ok (.getfield 46, 3) := by decide +kernel
theorem dX5_passMonth_5 : decode cX5_passMonth 5 = .ok (.iconst 1, 1) := by decide +kernel
theorem dX5_passMonth_6 : decode cX5_passMonth 6 = .ok (.iadd, 1) := by decide +kernel
theorem dX5_passMonth_7 : decode cX5_passMonth 7 = .ok (.putfield 46, 3) := by decide +kernel
theorem dX5_passMonth_10 : decode cX5_passMonth 10 = .ok (.iconst 0, 1) := by decide +kernel
theorem dX5_passMonth_11 : decode cX5_passMonth 11 = .ok (.istore_n 1, 1) := by decide +kernel
theorem dX5_passMonth_12 : decode cX5_passMonth 12 = .ok (.iload_n 1, 1) := by decide +kernel
theorem dX5_passMonth_13 : decode cX5_passMonth 13 = .ok (.aload_n 0, 1) := by decide +kernel
theorem dX5_passMonth_14 : decode cX5_passMonth 14 = .ok (.getfield 40, 3) := by decide +kernel
theorem dX5_passMonth_17 : decode cX5_passMonth 17 = .ok (.if_icmp .ge 26, 3) := by decide +kernel
theorem dX5_passMonth_20 : decode cX5_passMonth 20 = .ok (.aload_n 0, 1) := by decide +kernel
theorem dX5_passMonth_21 : decode cX5_passMonth 21 = .ok (.iload_n 1, 1) := by decide +kernel
theorem dX5_passMonth_22 : decode cX5_passMonth 22 = .ok (.invokevirtual 137, 3) := by decide +kernel
theorem dX5_passMonth_25 : decode cX5_passMonth 25 = .ok (.ifCond .eq 12, 3) := by decide +kernel
theorem dX5_passMonth_28 : decode cX5_passMonth 28 = .ok (.aload_n 0, 1) := by decide +kernel
theorem dX5_passMonth_29 : decode cX5_passMonth 29 = .ok (.getfield 19, 3) := by decide +kernel
theorem dX5_passMonth_32 : decode cX5_passMonth 32 = .ok (.iload_n 1, 1) := by decide +kernel
theorem dX5_passMonth_33 : decode cX5_passMonth 33 = .ok (.aaload, 1) := by decide +kernel
theorem dX5_passMonth_34 : decode cX5_passMonth 34 = .ok (.invokevirtual 140, 3) := by decide +kernel
theorem dX5_passMonth_37 : decode cX5_passMonth 37 = .ok (.iinc 1 1, 3) := by decide +kernel
theorem dX5_passMonth_40 : decode cX5_passMonth 40 = .ok (.goto (-28), 3) := by decide +kernel
theorem dX5_passMonth_43 : decode cX5_passMonth 43 = .ok (.return_, 1) := by decide +kernel
theorem dX5_missing_0 : decode cX5_missing 0 = .ok (.aload_n 0, 1) := by decide +kernel
theorem dX5_missing_1 : decode cX5_missing 1 = .ok (.iload_n 1, 1) := by decide +kernel
theorem dX5_missing_2 : decode cX5_missing 2 = .ok (.invokevirtual 68, 3) := by decide +kernel
theorem dX5_missing_5 : decode cX5_missing 5 = .ok (.ifCond .eq 15, 3) := by decide +kernel
theorem dX5_missing_8 : decode cX5_missing 8 = .ok (.aload_n 0, 1) := by decide +kernel
theorem dX5_missing_9 : decode cX5_missing 9 = .ok (.getfield 19, 3) := by decide +kernel
theorem dX5_missing_12 : decode cX5_missing 12 = .ok (.iload_n 1, 1) := by decide +kernel
theorem dX5_missing_13 : decode cX5_missing 13 = .ok (.aaload, 1) := by decide +kernel
theorem dX5_missing_14 : decode cX5_missing 14 = .ok (.getfield 72, 3) := by decide +kernel
theorem dX5_missing_17 : decode cX5_missing 17 = .ok (.ifCond .eq 5, 3) := by decide +kernel
theorem dX5_missing_20 : decode cX5_missing 20 = .ok (.iconst 0, 1) := by decide +kernel
theorem dX5_missing_21 : decode cX5_missing 21 = .ok (.ireturn, 1) := by decide +kernel
theorem dX5_missing_22 : decode cX5_missing 22 = .ok (.aload_n 0, 1) := by decide +kernel
theorem dX5_missing_23 : decode cX5_missing 23 = .ok (.getfield 19, 3) := by decide +kernel
theorem dX5_missing_26 : decode cX5_missing 26 = .ok (.iload_n 1, 1) := by decide +kernel
theorem dX5_missing_27 : decode cX5_missing 27 = .ok (.aaload, 1) := by decide +kernel
theorem dX5_missing_28 : decode cX5_missing 28 = .ok (.getfield 143, 3) := by decide +kernel
theorem dX5_missing_31 : decode cX5_missing 31 = .ok (.aload_n 0, 1) := by decide +kernel
theorem dX5_missing_32 : decode cX5_missing 32 = .ok (.iload_n 1, 1) := by decide +kernel
theorem dX5_missing_33 : decode cX5_missing 33 = .ok (.iconst 0, 1) := by decide +kernel
theorem dX5_missing_34 : decode cX5_missing 34 = .ok (.invokevirtual 146, 3) := by decide +kernel
theorem dX5_missing_37 : decode cX5_missing 37 = .ok (.isub, 1) := by decide +kernel
theorem dX5_missing_38 : decode cX5_missing 38 = .ok (.aload_n 0, 1) := by decide +kernel
theorem dX5_missing_39 : decode cX5_missing 39 = .ok (.iload_n 1, 1) := by decide +kernel
theorem dX5_missing_40 : decode cX5_missing 40 = .ok (.iconst 1, 1) := by decide +kernel
theorem dX5_missing_41 : decode cX5_missing 41 = .ok (.invokevirtual 146, 3) := by decide +kernel
theorem dX5_missing_44 : decode cX5_missing 44 = .ok (.isub, 1) := by decide +kernel
theorem dX5_missing_45 : decode cX5_missing 45 = .ok (.ireturn, 1) := by decide +kernel
theorem dX5_principals_0 : decode cX5_principals 0 = .ok (.iconst 0, 1) := by decide +kernel
theorem dX5_principals_1 : decode cX5_principals 1 = .ok (.istore_n 3, 1) := by decide +kernel
theorem dX5_principals_2 : decode cX5_principals 2 = .ok (.iconst 0, 1) := by decide +kernel
theorem dX5_principals_3 : decode cX5_principals 3 = .ok (.istore 4, 2) := by decide +kernel
theorem dX5_principals_5 : decode cX5_principals 5 = .ok (.iload 4, 2) := by decide +kernel
theorem dX5_principals_7 : decode cX5_principals 7 = .ok (.aload_n 0, 1) := by decide +kernel
theorem dX5_principals_8 : decode cX5_principals 8 = .ok (.getfield 43, 3) := by decide +kernel
theorem dX5_principals_11 : decode cX5_principals 11 = .ok (.if_icmp .ge 50, 3) := by decide +kernel
theorem dX5_principals_14 : decode cX5_principals 14 = .ok (.aload_n 0, 1) := by decide +kernel
theorem dX5_principals_15 : decode cX5_principals 15 = .ok (.getfield 25, 3) := by decide +kernel
theorem dX5_principals_18 : decode cX5_principals 18 = .ok (.iload 4, 2) := by decide +kernel
theorem dX5_principals_20 : decode cX5_principals 20 = .ok (.aaload, 1) := by decide +kernel
theorem dX5_principals_21 : decode cX5_principals 21 = .ok (.getfield 124, 3) := by decide +kernel
theorem dX5_principals_24 : decode cX5_principals 24 = .ok (.iload_n 1, 1) := by decide +kernel
theorem dX5_principals_25 : decode cX5_principals 25 = .ok (.if_icmp .ne 30, 3) := by decide +kernel
theorem dX5_principals_28 : decode cX5_principals 28 = .ok (.aload_n 0, 1) := by decide +kernel
theorem dX5_principals_29 : decode cX5_principals 29 = .ok (.getfield 25, 3) := by decide +kernel
theorem dX5_principals_32 : decode cX5_principals 32 = .ok (.iload 4, 2) := by decide +kernel
theorem dX5_principals_34 : decode cX5_principals 34 = .ok (.aaload, 1) := by decide +kernel
theorem dX5_principals_35 : decode cX5_principals 35 = .ok (.getfield 150, 3) := by decide +kernel
theorem dX5_principals_38 : decode cX5_principals 38 = .ok (.iload_n 2, 1) := by decide +kernel
theorem dX5_principals_39 : decode cX5_principals 39 = .ok (.if_icmp .ne 16, 3) := by decide +kernel
theorem dX5_principals_42 : decode cX5_principals 42 = .ok (.iload_n 3, 1) := by decide +kernel
theorem dX5_principals_43 : decode cX5_principals 43 = .ok (.aload_n 0, 1) := by decide +kernel
theorem dX5_principals_44 : decode cX5_principals 44 = .ok (.getfield 25, 3) := by decide +kernel
theorem dX5_principals_47 : decode cX5_principals 47 = .ok (.iload 4, 2) := by decide +kernel
theorem dX5_principals_49 : decode cX5_principals 49 = .ok (.aaload, 1) := by decide +kernel
theorem dX5_principals_50 : decode cX5_principals 50 = .ok (.getfield 127, 3) := by decide +kernel
theorem dX5_principals_53 : decode cX5_principals 53 = .ok (.iadd, 1) := by decide +kernel
theorem dX5_principals_54 : decode cX5_principals 54 = .ok (.istore_n 3, 1) := by decide +kernel
theorem dX5_principals_55 : decode cX5_principals 55 = .ok (.iinc 4 1, 3) := by decide +kernel
theorem dX5_principals_58 : decode cX5_principals 58 = .ok (.goto (-53), 3) := by decide +kernel
theorem dX5_principals_61 : decode cX5_principals 61 = .ok (.iload_n 3, 1) := by decide +kernel
theorem dX5_principals_62 : decode cX5_principals 62 = .ok (.ireturn, 1) := by decide +kernel
theorem dX5_notesFor_0 : decode cX5_notesFor 0 = .ok (.iconst 0, 1) := by decide +kernel
theorem dX5_notesFor_1 : decode cX5_notesFor 1 = .ok (.istore_n 2, 1) := by decide +kernel
theorem dX5_notesFor_2 : decode cX5_notesFor 2 = .ok (.iconst 0, 1) := by decide +kernel
theorem dX5_notesFor_3 : decode cX5_notesFor 3 = .ok (.istore_n 3, 1) := by decide +kernel
theorem dX5_notesFor_4 : decode cX5_notesFor 4 = .ok (.iload_n 3, 1) := by decide +kernel
theorem dX5_notesFor_5 : decode cX5_notesFor 5 = .ok (.aload_n 0, 1) := by decide +kernel
theorem dX5_notesFor_6 : decode cX5_notesFor 6 = .ok (.getfield 43, 3) := by decide +kernel
theorem dX5_notesFor_9 : decode cX5_notesFor 9 = .ok (.if_icmp .ge 25, 3) := by decide +kernel
theorem dX5_notesFor_12 : decode cX5_notesFor 12 = .ok (.aload_n 0, 1) := by decide +kernel
theorem dX5_notesFor_13 : decode cX5_notesFor 13 = .ok (.getfield 25, 3) := by decide +kernel
theorem dX5_notesFor_16 : decode cX5_notesFor 16 = .ok (.iload_n 3, 1) := by decide +kernel
theorem dX5_notesFor_17 : decode cX5_notesFor 17 = .ok (.aaload, 1) := by decide +kernel
theorem dX5_notesFor_18 : decode cX5_notesFor 18 = .ok (.getfield 124, 3) := by decide +kernel
theorem dX5_notesFor_21 : decode cX5_notesFor 21 = .ok (.iload_n 1, 1) := by decide +kernel
theorem dX5_notesFor_22 : decode cX5_notesFor 22 = .ok (.if_icmp .ne 6, 3) := by decide +kernel
theorem dX5_notesFor_25 : decode cX5_notesFor 25 = .ok (.iinc 2 1, 3) := by decide +kernel
theorem dX5_notesFor_28 : decode cX5_notesFor 28 = .ok (.iinc 3 1, 3) := by decide +kernel
theorem dX5_notesFor_31 : decode cX5_notesFor 31 = .ok (.goto (-27), 3) := by decide +kernel
theorem dX5_notesFor_34 : decode cX5_notesFor 34 = .ok (.iload_n 2, 1) := by decide +kernel
theorem dX5_notesFor_35 : decode cX5_notesFor 35 = .ok (.ireturn, 1) := by decide +kernel
theorem dX5_principalsOf_0 : decode cX5_principalsOf 0 = .ok (.iconst 0, 1) := by decide +kernel
theorem dX5_principalsOf_1 : decode cX5_principalsOf 1 = .ok (.istore_n 2, 1) := by decide +kernel
theorem dX5_principalsOf_2 : decode cX5_principalsOf 2 = .ok (.iconst 0, 1) := by decide +kernel
theorem dX5_principalsOf_3 : decode cX5_principalsOf 3 = .ok (.istore_n 3, 1) := by decide +kernel
theorem dX5_principalsOf_4 : decode cX5_principalsOf 4 = .ok (.iload_n 3, 1) := by decide +kernel
theorem dX5_principalsOf_5 : decode cX5_principalsOf 5 = .ok (.aload_n 0, 1) := by decide +kernel
theorem dX5_principalsOf_6 : decode cX5_principalsOf 6 = .ok (.getfield 43, 3) := by decide +kernel
theorem dX5_principalsOf_9 : decode cX5_principalsOf 9 = .ok (.if_icmp .ge 34, 3) := by decide +kernel
theorem dX5_principalsOf_12 : decode cX5_principalsOf 12 = .ok (.aload_n 0, 1) := by decide +kernel
theorem dX5_principalsOf_13 : decode cX5_principalsOf 13 = .ok (.getfield 25, 3) := by decide +kernel
theorem dX5_principalsOf_16 : decode cX5_principalsOf 16 = .ok (.iload_n 3, 1) := by decide +kernel
theorem dX5_principalsOf_17 : decode cX5_principalsOf 17 = .ok (.aaload, 1) := by decide +kernel
theorem dX5_principalsOf_18 : decode cX5_principalsOf 18 = .ok (.getfield 131, 3) := by decide +kernel
theorem dX5_principalsOf_21 : decode cX5_principalsOf 21 = .ok (.iload_n 1, 1) := by decide +kernel
theorem dX5_principalsOf_22 : decode cX5_principalsOf 22 = .ok (.if_icmp .ne 15, 3) := by decide +kernel
theorem dX5_principalsOf_25 : decode cX5_principalsOf 25 = .ok (.iload_n 2, 1) := by decide +kernel
theorem dX5_principalsOf_26 : decode cX5_principalsOf 26 = .ok (.aload_n 0, 1) := by decide +kernel
theorem dX5_principalsOf_27 : decode cX5_principalsOf 27 = .ok (.getfield 25, 3) := by decide +kernel
theorem dX5_principalsOf_30 : decode cX5_principalsOf 30 = .ok (.iload_n 3, 1) := by decide +kernel
theorem dX5_principalsOf_31 : decode cX5_principalsOf 31 = .ok (.aaload, 1) := by decide +kernel
theorem dX5_principalsOf_32 : decode cX5_principalsOf 32 = .ok (.getfield 127, 3) := by decide +kernel
theorem dX5_principalsOf_35 : decode cX5_principalsOf 35 = .ok (.iadd, 1) := by decide +kernel
theorem dX5_principalsOf_36 : decode cX5_principalsOf 36 = .ok (.istore_n 2, 1) := by decide +kernel
theorem dX5_principalsOf_37 : decode cX5_principalsOf 37 = .ok (.iinc 3 1, 3) := by decide +kernel
theorem dX5_principalsOf_40 : decode cX5_principalsOf 40 = .ok (.goto (-36), 3) := by decide +kernel
theorem dX5_principalsOf_43 : decode cX5_principalsOf 43 = .ok (.iload_n 2, 1) := by decide +kernel
theorem dX5_principalsOf_44 : decode cX5_principalsOf 44 = .ok (.ireturn, 1) := by decide +kernel
theorem dX5_liveNotesOf_0 : decode cX5_liveNotesOf 0 = .ok (.iconst 0, 1) := by decide +kernel
theorem dX5_liveNotesOf_1 : decode cX5_liveNotesOf 1 = .ok (.istore_n 2, 1) := by decide +kernel
theorem dX5_liveNotesOf_2 : decode cX5_liveNotesOf 2 = .ok (.iconst 0, 1) := by decide +kernel
theorem dX5_liveNotesOf_3 : decode cX5_liveNotesOf 3 = .ok (.istore_n 3, 1) := by decide +kernel
theorem dX5_liveNotesOf_4 : decode cX5_liveNotesOf 4 = .ok (.iload_n 3, 1) := by decide +kernel
theorem dX5_liveNotesOf_5 : decode cX5_liveNotesOf 5 = .ok (.aload_n 0, 1) := by decide +kernel
theorem dX5_liveNotesOf_6 : decode cX5_liveNotesOf 6 = .ok (.getfield 43, 3) := by decide +kernel
theorem dX5_liveNotesOf_9 : decode cX5_liveNotesOf 9 = .ok (.if_icmp .ge 37, 3) := by decide +kernel
theorem dX5_liveNotesOf_12 : decode cX5_liveNotesOf 12 = .ok (.aload_n 0, 1) := by decide +kernel
theorem dX5_liveNotesOf_13 : decode cX5_liveNotesOf 13 = .ok (.getfield 25, 3) := by decide +kernel
theorem dX5_liveNotesOf_16 : decode cX5_liveNotesOf 16 = .ok (.iload_n 3, 1) := by decide +kernel
theorem dX5_liveNotesOf_17 : decode cX5_liveNotesOf 17 = .ok (.aaload, 1) := by decide +kernel
theorem dX5_liveNotesOf_18 : decode cX5_liveNotesOf 18 = .ok (.getfield 131, 3) := by decide +kernel
theorem dX5_liveNotesOf_21 : decode cX5_liveNotesOf 21 = .ok (.iload_n 1, 1) := by decide +kernel
theorem dX5_liveNotesOf_22 : decode cX5_liveNotesOf 22 = .ok (.if_icmp .ne 18, 3) := by decide +kernel
theorem dX5_liveNotesOf_25 : decode cX5_liveNotesOf 25 = .ok (.aload_n 0, 1) := by decide +kernel
theorem dX5_liveNotesOf_26 : decode cX5_liveNotesOf 26 = .ok (.getfield 25, 3) := by decide +kernel
theorem dX5_liveNotesOf_29 : decode cX5_liveNotesOf 29 = .ok (.iload_n 3, 1) := by decide +kernel
theorem dX5_liveNotesOf_30 : decode cX5_liveNotesOf 30 = .ok (.aaload, 1) := by decide +kernel
theorem dX5_liveNotesOf_31 : decode cX5_liveNotesOf 31 = .ok (.getfield 127, 3) := by decide +kernel
theorem dX5_liveNotesOf_34 : decode cX5_liveNotesOf 34 = .ok (.ifCond .eq 6, 3) := by decide +kernel
theorem dX5_liveNotesOf_37 : decode cX5_liveNotesOf 37 = .ok (.iinc 2 1, 3) := by decide +kernel
theorem dX5_liveNotesOf_40 : decode cX5_liveNotesOf 40 = .ok (.iinc 3 1, 3) := by decide +kernel
theorem dX5_liveNotesOf_43 : decode cX5_liveNotesOf 43 = .ok (.goto (-39), 3) := by decide +kernel
theorem dX5_liveNotesOf_46 : decode cX5_liveNotesOf 46 = .ok (.iload_n 2, 1) := by decide +kernel
theorem dX5_liveNotesOf_47 : decode cX5_liveNotesOf 47 = .ok (.ireturn, 1) := by decide +kernel
theorem dX5_loansOf_0 : decode cX5_loansOf 0 = .ok (.iconst 0, 1) := by decide +kernel
theorem dX5_loansOf_1 : decode cX5_loansOf 1 = .ok (.istore_n 2, 1) := by decide +kernel
theorem dX5_loansOf_2 : decode cX5_loansOf 2 = .ok (.iconst 0, 1) := by decide +kernel
theorem dX5_loansOf_3 : decode cX5_loansOf 3 = .ok (.istore_n 3, 1) := by decide +kernel
theorem dX5_loansOf_4 : decode cX5_loansOf 4 = .ok (.iload_n 3, 1) := by decide +kernel
theorem dX5_loansOf_5 : decode cX5_loansOf 5 = .ok (.aload_n 0, 1) := by decide +kernel
theorem dX5_loansOf_6 : decode cX5_loansOf 6 = .ok (.getfield 43, 3) := by decide +kernel
theorem dX5_loansOf_9 : decode cX5_loansOf 9 = .ok (.if_icmp .ge 48, 3) := by decide +kernel
theorem dX5_loansOf_12 : decode cX5_loansOf 12 = .ok (.aload_n 0, 1) := by decide +kernel
theorem dX5_loansOf_13 : decode cX5_loansOf 13 = .ok (.getfield 25, 3) := by decide +kernel
theorem dX5_loansOf_16 : decode cX5_loansOf 16 = .ok (.iload_n 3, 1) := by decide +kernel
theorem dX5_loansOf_17 : decode cX5_loansOf 17 = .ok (.aaload, 1) := by decide +kernel
theorem dX5_loansOf_18 : decode cX5_loansOf 18 = .ok (.getfield 131, 3) := by decide +kernel
theorem dX5_loansOf_21 : decode cX5_loansOf 21 = .ok (.iload_n 1, 1) := by decide +kernel
theorem dX5_loansOf_22 : decode cX5_loansOf 22 = .ok (.if_icmp .ne 29, 3) := by decide +kernel
theorem dX5_loansOf_25 : decode cX5_loansOf 25 = .ok (.aload_n 0, 1) := by decide +kernel
theorem dX5_loansOf_26 : decode cX5_loansOf 26 = .ok (.getfield 25, 3) := by decide +kernel
theorem dX5_loansOf_29 : decode cX5_loansOf 29 = .ok (.iload_n 3, 1) := by decide +kernel
theorem dX5_loansOf_30 : decode cX5_loansOf 30 = .ok (.aaload, 1) := by decide +kernel
theorem dX5_loansOf_31 : decode cX5_loansOf 31 = .ok (.getfield 127, 3) := by decide +kernel
theorem dX5_loansOf_34 : decode cX5_loansOf 34 = .ok (.ifCond .eq 17, 3) := by decide +kernel
theorem dX5_loansOf_37 : decode cX5_loansOf 37 = .ok (.iload_n 2, 1) := by decide +kernel
theorem dX5_loansOf_38 : decode cX5_loansOf 38 = .ok (.iconst 1, 1) := by decide +kernel
theorem dX5_loansOf_39 : decode cX5_loansOf 39 = .ok (.aload_n 0, 1) := by decide +kernel
theorem dX5_loansOf_40 : decode cX5_loansOf 40 = .ok (.getfield 25, 3) := by decide +kernel
theorem dX5_loansOf_43 : decode cX5_loansOf 43 = .ok (.iload_n 3, 1) := by decide +kernel
theorem dX5_loansOf_44 : decode cX5_loansOf 44 = .ok (.aaload, 1) := by decide +kernel
theorem dX5_loansOf_45 : decode cX5_loansOf 45 = .ok (.getfield 124, 3) := by decide +kernel
theorem dX5_loansOf_48 : decode cX5_loansOf 48 = .ok (.ishl, 1) := by decide +kernel
theorem dX5_loansOf_49 : decode cX5_loansOf 49 = .ok (.ior, 1) := by decide +kernel
theorem dX5_loansOf_50 : decode cX5_loansOf 50 = .ok (.istore_n 2, 1) := by decide +kernel
theorem dX5_loansOf_51 : decode cX5_loansOf 51 = .ok (.iinc 3 1, 3) := by decide +kernel
theorem dX5_loansOf_54 : decode cX5_loansOf 54 = .ok (.goto (-50), 3) := by decide +kernel
theorem dX5_loansOf_57 : decode cX5_loansOf 57 = .ok (.iload_n 2, 1) := by decide +kernel
theorem dX5_loansOf_58 : decode cX5_loansOf 58 = .ok (.ireturn, 1) := by decide +kernel
theorem dX5_loansInState_0 : decode cX5_loansInState 0 = .ok (.iconst 0, 1) := by decide +kernel
theorem dX5_loansInState_1 : decode cX5_loansInState 1 = .ok (.istore_n 2, 1) := by decide +kernel
theorem dX5_loansInState_2 : decode cX5_loansInState 2 = .ok (.iconst 0, 1) := by decide +kernel
theorem dX5_loansInState_3 : decode cX5_loansInState 3 = .ok (.istore_n 3, 1) := by decide +kernel
theorem dX5_loansInState_4 : decode cX5_loansInState 4 = .ok (.iload_n 3, 1) := by decide +kernel
theorem dX5_loansInState_5 : decode cX5_loansInState 5 = .ok (.aload_n 0, 1) := by decide +kernel
theorem dX5_loansInState_6 : decode cX5_loansInState 6 = .ok (.getfield 40, 3) := by decide +kernel
theorem dX5_loansInState_9 : decode cX5_loansInState 9 = .ok (.if_icmp .ge 25, 3) := by decide +kernel
theorem dX5_loansInState_12 : decode cX5_loansInState 12 = .ok (.aload_n 0, 1) := by decide +kernel
theorem dX5_loansInState_13 : decode cX5_loansInState 13 = .ok (.getfield 19, 3) := by decide +kernel
theorem dX5_loansInState_16 : decode cX5_loansInState 16 = .ok (.iload_n 3, 1) := by decide +kernel
theorem dX5_loansInState_17 : decode cX5_loansInState 17 = .ok (.aaload, 1) := by decide +kernel
theorem dX5_loansInState_18 : decode cX5_loansInState 18 = .ok (.getfield 72, 3) := by decide +kernel
theorem dX5_loansInState_21 : decode cX5_loansInState 21 = .ok (.iload_n 1, 1) := by decide +kernel
theorem dX5_loansInState_22 : decode cX5_loansInState 22 = .ok (.if_icmp .ne 6, 3) := by decide +kernel
theorem dX5_loansInState_25 : decode cX5_loansInState 25 = .ok (.iinc 2 1, 3) := by decide +kernel
theorem dX5_loansInState_28 : decode cX5_loansInState 28 = .ok (.iinc 3 1, 3) := by decide +kernel
theorem dX5_loansInState_31 : decode cX5_loansInState 31 = .ok (.goto (-27), 3) := by decide +kernel
theorem dX5_loansInState_34 : decode cX5_loansInState 34 = .ok (.iload_n 2, 1) := by decide +kernel
theorem dX5_loansInState_35 : decode cX5_loansInState 35 = .ok (.ireturn, 1) := by decide +kernel
theorem dX5_loansServedBy_0 : decode cX5_loansServedBy 0 = .ok (.iconst 0, 1) := by decide +kernel
theorem dX5_loansServedBy_1 : decode cX5_loansServedBy 1 = .ok (.istore_n 2, 1) := by decide +kernel
theorem dX5_loansServedBy_2 : decode cX5_loansServedBy 2 = .ok (.iconst 0, 1) := by decide +kernel
theorem dX5_loansServedBy_3 : decode cX5_loansServedBy 3 = .ok (.istore_n 3, 1) := by decide +kernel
theorem dX5_loansServedBy_4 : decode cX5_loansServedBy 4 = .ok (.iload_n 3, 1) := by decide +kernel
theorem dX5_loansServedBy_5 : decode cX5_loansServedBy 5 = .ok (.aload_n 0, 1) := by decide +kernel
theorem dX5_loansServedBy_6 : decode cX5_loansServedBy 6 = .ok (.getfield 40, 3) := by decide +kernel
theorem dX5_loansServedBy_9 : decode cX5_loansServedBy 9 = .ok (.if_icmp .ge 33, 3) := by decide +kernel
theorem dX5_loansServedBy_12 : decode cX5_loansServedBy 12 = .ok (.aload_n 0, 1) := by decide +kernel
theorem dX5_loansServedBy_13 : decode cX5_loansServedBy 13 = .ok (.iload_n 3, 1) := by decide +kernel
theorem dX5_loansServedBy_14 : decode cX5_loansServedBy 14 = .ok (.invokevirtual 137, 3) := by decide +kernel
theorem dX5_loansServedBy_17 : decode cX5_loansServedBy 17 = .ok (.ifCond .eq 19, 3) := by decide +kernel
theorem dX5_loansServedBy_20 : decode cX5_loansServedBy 20 = .ok (.aload_n 0, 1) := by decide +kernel
theorem dX5_loansServedBy_21 : decode cX5_loansServedBy 21 = .ok (.getfield 19, 3) := by decide +kernel
theorem dX5_loansServedBy_24 : decode cX5_loansServedBy 24 = .ok (.iload_n 3, 1) := by decide +kernel
theorem dX5_loansServedBy_25 : decode cX5_loansServedBy 25 = .ok (.aaload, 1) := by decide +kernel
theorem dX5_loansServedBy_26 : decode cX5_loansServedBy 26 = .ok (.getfield 101, 3) := by decide +kernel
theorem dX5_loansServedBy_29 : decode cX5_loansServedBy 29 = .ok (.iload_n 1, 1) := by decide +kernel
theorem dX5_loansServedBy_30 : decode cX5_loansServedBy 30 = .ok (.if_icmp .ne 6, 3) := by decide +kernel
theorem dX5_loansServedBy_33 : decode cX5_loansServedBy 33 = .ok (.iinc 2 1, 3) := by decide +kernel
theorem dX5_loansServedBy_36 : decode cX5_loansServedBy 36 = .ok (.iinc 3 1, 3) := by decide +kernel
theorem dX5_loansServedBy_39 : decode cX5_loansServedBy 39 = .ok (.goto (-35), 3) := by decide +kernel
theorem dX5_loansServedBy_42 : decode cX5_loansServedBy 42 = .ok (.iload_n 2, 1) := by decide +kernel
theorem dX5_loansServedBy_43 : decode cX5_loansServedBy 43 = .ok (.ireturn, 1) := by decide +kernel
theorem dX5_loansInArrears_0 : decode cX5_loansInArrears 0 = .ok (.iconst 0, 1) := by decide +kernel
theorem dX5_loansInArrears_1 : decode cX5_loansInArrears 1 = .ok (.istore_n 1, 1) := by decide +kernel
theorem dX5_loansInArrears_2 : decode cX5_loansInArrears 2 = .ok (.iconst 0, 1) := by decide +kernel
theorem dX5_loansInArrears_3 : decode cX5_loansInArrears 3 = .ok (.istore_n 2, 1) := by decide +kernel
theorem dX5_loansInArrears_4 : decode cX5_loansInArrears 4 = .ok (.iload_n 2, 1) := by decide +kernel
theorem dX5_loansInArrears_5 : decode cX5_loansInArrears 5 = .ok (.aload_n 0, 1) := by decide +kernel
theorem dX5_loansInArrears_6 : decode cX5_loansInArrears 6 = .ok (.getfield 40, 3) := by decide +kernel
theorem dX5_loansInArrears_9 : decode cX5_loansInArrears 9 = .ok (.if_icmp .ge 24, 3) := by decide +kernel
theorem dX5_loansInArrears_12 : decode cX5_loansInArrears 12 = .ok (.aload_n 0, 1) := by decide +kernel
theorem dX5_loansInArrears_13 : decode cX5_loansInArrears 13 = .ok (.getfield 19, 3) := by decide +kernel
theorem dX5_loansInArrears_16 : decode cX5_loansInArrears 16 = .ok (.iload_n 2, 1) := by decide +kernel
theorem dX5_loansInArrears_17 : decode cX5_loansInArrears 17 = .ok (.aaload, 1) := by decide +kernel
theorem dX5_loansInArrears_18 : decode cX5_loansInArrears 18 = .ok (.getfield 153, 3) := by decide +kernel
theorem dX5_loansInArrears_21 : decode cX5_loansInArrears 21 = .ok (.ifCond .le 6, 3) := by decide +kernel
theorem dX5_loansInArrears_24 : decode cX5_loansInArrears 24 = .ok (.iinc 1 1, 3) := by decide +kernel
theorem dX5_loansInArrears_27 : decode cX5_loansInArrears 27 = .ok (.iinc 2 1, 3) := by decide +kernel
theorem dX5_loansInArrears_30 : decode cX5_loansInArrears 30 = .ok (.goto (-26), 3) := by decide +kernel
theorem dX5_loansInArrears_33 : decode cX5_loansInArrears 33 = .ok (.iload_n 1, 1) := by decide +kernel
theorem dX5_loansInArrears_34 : decode cX5_loansInArrears 34 = .ok (.ireturn, 1) := by decide +kernel
theorem dX5_ordersOfSwitches_0 : decode cX5_ordersOfSwitches 0 = .ok (.iconst 0, 1) := by decide +kernel
theorem dX5_ordersOfSwitches_1 : decode cX5_ordersOfSwitches 1 = .ok (.istore_n 1, 1) := by decide +kernel
theorem dX5_ordersOfSwitches_2 : decode cX5_ordersOfSwitches 2 = .ok (.iconst 0, 1) := by decide +kernel
theorem dX5_ordersOfSwitches_3 : decode cX5_ordersOfSwitches 3 = .ok (.istore_n 2, 1) := by decide +kernel
theorem dX5_ordersOfSwitches_4 : decode cX5_ordersOfSwitches 4 = .ok (.iload_n 2, 1) := by decide +kernel
theorem dX5_ordersOfSwitches_5 : decode cX5_ordersOfSwitches 5 = .ok (.aload_n 0, 1) := by decide +kernel
theorem dX5_ordersOfSwitches_6 : decode cX5_ordersOfSwitches 6 = .ok (.getfield 40, 3) := by decide +kernel
theorem dX5_ordersOfSwitches_9 : decode cX5_ordersOfSwitches 9 = .ok (.if_icmp .ge 26, 3) := by decide +kernel
theorem dX5_ordersOfSwitches_12 : decode cX5_ordersOfSwitches 12 = .ok (.aload_n 0, 1) := by decide +kernel
theorem dX5_ordersOfSwitches_13 : decode cX5_ordersOfSwitches 13 = .ok (.getfield 19, 3) := by decide +kernel
theorem dX5_ordersOfSwitches_16 : decode cX5_ordersOfSwitches 16 = .ok (.iload_n 2, 1) := by decide +kernel
theorem dX5_ordersOfSwitches_17 : decode cX5_ordersOfSwitches 17 = .ok (.aaload, 1) := by decide +kernel
theorem dX5_ordersOfSwitches_18 : decode cX5_ordersOfSwitches 18 = .ok (.getfield 156, 3) := by decide +kernel
theorem dX5_ordersOfSwitches_21 : decode cX5_ordersOfSwitches 21 = .ok (.bipush (-5), 2) := by decide +kernel
theorem dX5_ordersOfSwitches_23 : decode cX5_ordersOfSwitches 23 = .ok (.if_icmp .eq 6, 3) := by decide +kernel
theorem dX5_ordersOfSwitches_26 : decode cX5_ordersOfSwitches 26 = .ok (.iinc 1 1, 3) := by decide +kernel
theorem dX5_ordersOfSwitches_29 : decode cX5_ordersOfSwitches 29 = .ok (.iinc 2 1, 3) := by decide +kernel
theorem dX5_ordersOfSwitches_32 : decode cX5_ordersOfSwitches 32 = .ok (.goto (-28), 3) := by decide +kernel
theorem dX5_ordersOfSwitches_35 : decode cX5_ordersOfSwitches 35 = .ok (.iload_n 1, 1) := by decide +kernel
theorem dX5_ordersOfSwitches_36 : decode cX5_ordersOfSwitches 36 = .ok (.ireturn, 1) := by decide +kernel
theorem dX5_allPrincipals_0 : decode cX5_allPrincipals 0 = .ok (.iconst 0, 1) := by decide +kernel
theorem dX5_allPrincipals_1 : decode cX5_allPrincipals 1 = .ok (.istore_n 1, 1) := by decide +kernel
theorem dX5_allPrincipals_2 : decode cX5_allPrincipals 2 = .ok (.iconst 0, 1) := by decide +kernel
theorem dX5_allPrincipals_3 : decode cX5_allPrincipals 3 = .ok (.istore_n 2, 1) := by decide +kernel
theorem dX5_allPrincipals_4 : decode cX5_allPrincipals 4 = .ok (.iload_n 2, 1) := by decide +kernel
theorem dX5_allPrincipals_5 : decode cX5_allPrincipals 5 = .ok (.aload_n 0, 1) := by decide +kernel
theorem dX5_allPrincipals_6 : decode cX5_allPrincipals 6 = .ok (.getfield 40, 3) := by decide +kernel
theorem dX5_allPrincipals_9 : decode cX5_allPrincipals 9 = .ok (.if_icmp .ge 21, 3) := by decide +kernel
theorem dX5_allPrincipals_12 : decode cX5_allPrincipals 12 = .ok (.iload_n 1, 1) := by decide +kernel
theorem dX5_allPrincipals_13 : decode cX5_allPrincipals 13 = .ok (.aload_n 0, 1) := by decide +kernel
theorem dX5_allPrincipals_14 : decode cX5_allPrincipals 14 = .ok (.getfield 19, 3) := by decide +kernel
theorem dX5_allPrincipals_17 : decode cX5_allPrincipals 17 = .ok (.iload_n 2, 1) := by decide +kernel
theorem dX5_allPrincipals_18 : decode cX5_allPrincipals 18 = .ok (.aaload, 1) := by decide +kernel
theorem dX5_allPrincipals_19 : decode cX5_allPrincipals 19 = .ok (.getfield 159, 3) := by decide +kernel
theorem dX5_allPrincipals_22 : decode cX5_allPrincipals 22 = .ok (.iadd, 1) := by decide +kernel
theorem dX5_allPrincipals_23 : decode cX5_allPrincipals 23 = .ok (.istore_n 1, 1) := by decide +kernel
theorem dX5_allPrincipals_24 : decode cX5_allPrincipals 24 = .ok (.iinc 2 1, 3) := by decide +kernel
theorem dX5_allPrincipals_27 : decode cX5_allPrincipals 27 = .ok (.goto (-23), 3) := by decide +kernel
theorem dX5_allPrincipals_30 : decode cX5_allPrincipals 30 = .ok (.iload_n 1, 1) := by decide +kernel
theorem dX5_allPrincipals_31 : decode cX5_allPrincipals 31 = .ok (.ireturn, 1) := by decide +kernel
theorem dX5_allInterestDue_0 : decode cX5_allInterestDue 0 = .ok (.iconst 0, 1) := by decide +kernel
theorem dX5_allInterestDue_1 : decode cX5_allInterestDue 1 = .ok (.istore_n 1, 1) := by decide +kernel
theorem dX5_allInterestDue_2 : decode cX5_allInterestDue 2 = .ok (.iconst 0, 1) := by decide +kernel
theorem dX5_allInterestDue_3 : decode cX5_allInterestDue 3 = .ok (.istore_n 2, 1) := by decide +kernel
theorem dX5_allInterestDue_4 : decode cX5_allInterestDue 4 = .ok (.iload_n 2, 1) := by decide +kernel
theorem dX5_allInterestDue_5 : decode cX5_allInterestDue 5 = .ok (.aload_n 0, 1) := by decide +kernel
theorem dX5_allInterestDue_6 : decode cX5_allInterestDue 6 = .ok (.getfield 40, 3) := by decide +kernel
theorem dX5_allInterestDue_9 : decode cX5_allInterestDue 9 = .ok (.if_icmp .ge 21, 3) := by decide +kernel
theorem dX5_allInterestDue_12 : decode cX5_allInterestDue 12 = .ok (.iload_n 1, 1) := by decide +kernel
theorem dX5_allInterestDue_13 : decode cX5_allInterestDue 13 = .ok (.aload_n 0, 1) := by decide +kernel
theorem dX5_allInterestDue_14 : decode cX5_allInterestDue 14 = .ok (.getfield 19, 3) := by decide +kernel
theorem dX5_allInterestDue_17 : decode cX5_allInterestDue 17 = .ok (.iload_n 2, 1) := by decide +kernel
theorem dX5_allInterestDue_18 : decode cX5_allInterestDue 18 = .ok (.aaload, 1) := by decide +kernel
theorem dX5_allInterestDue_19 : decode cX5_allInterestDue 19 = .ok (.getfield 160, 3) := by decide +kernel
theorem dX5_allInterestDue_22 : decode cX5_allInterestDue 22 = .ok (.iadd, 1) := by decide +kernel
theorem dX5_allInterestDue_23 : decode cX5_allInterestDue 23 = .ok (.istore_n 1, 1) := by decide +kernel
theorem dX5_allInterestDue_24 : decode cX5_allInterestDue 24 = .ok (.iinc 2 1, 3) := by decide +kernel
theorem dX5_allInterestDue_27 : decode cX5_allInterestDue 27 = .ok (.goto (-23), 3) := by decide +kernel
theorem dX5_allInterestDue_30 : decode cX5_allInterestDue 30 = .ok (.iload_n 1, 1) := by decide +kernel
theorem dX5_allInterestDue_31 : decode cX5_allInterestDue 31 = .ok (.ireturn, 1) := by decide +kernel
theorem dX5_allLosses_0 : decode cX5_allLosses 0 = .ok (.iconst 0, 1) := by decide +kernel
theorem dX5_allLosses_1 : decode cX5_allLosses 1 = .ok (.istore_n 1, 1) := by decide +kernel
theorem dX5_allLosses_2 : decode cX5_allLosses 2 = .ok (.iconst 0, 1) := by decide +kernel
theorem dX5_allLosses_3 : decode cX5_allLosses 3 = .ok (.istore_n 2, 1) := by decide +kernel
theorem dX5_allLosses_4 : decode cX5_allLosses 4 = .ok (.iload_n 2, 1) := by decide +kernel
theorem dX5_allLosses_5 : decode cX5_allLosses 5 = .ok (.aload_n 0, 1) := by decide +kernel
theorem dX5_allLosses_6 : decode cX5_allLosses 6 = .ok (.getfield 43, 3) := by decide +kernel
theorem dX5_allLosses_9 : decode cX5_allLosses 9 = .ok (.if_icmp .ge 21, 3) := by decide +kernel
theorem dX5_allLosses_12 : decode cX5_allLosses 12 = .ok (.iload_n 1, 1) := by decide +kernel
theorem dX5_allLosses_13 : decode cX5_allLosses 13 = .ok (.aload_n 0, 1) := by decide +kernel
theorem dX5_allLosses_14 : decode cX5_allLosses 14 = .ok (.getfield 25, 3) := by decide +kernel
theorem dX5_allLosses_17 : decode cX5_allLosses 17 = .ok (.iload_n 2, 1) := by decide +kernel
theorem dX5_allLosses_18 : decode cX5_allLosses 18 = .ok (.aaload, 1) := by decide +kernel
theorem dX5_allLosses_19 : decode cX5_allLosses 19 = .ok (.getfield 128, 3) := by decide +kernel
theorem dX5_allLosses_22 : decode cX5_allLosses 22 = .ok (.iadd, 1) := by decide +kernel
theorem dX5_allLosses_23 : decode cX5_allLosses 23 = .ok (.istore_n 1, 1) := by decide +kernel
theorem dX5_allLosses_24 : decode cX5_allLosses 24 = .ok (.iinc 2 1, 3) := by decide +kernel
theorem dX5_allLosses_27 : decode cX5_allLosses 27 = .ok (.goto (-23), 3) := by decide +kernel
theorem dX5_allLosses_30 : decode cX5_allLosses 30 = .ok (.iload_n 1, 1) := by decide +kernel
theorem dX5_allLosses_31 : decode cX5_allLosses 31 = .ok (.ireturn, 1) := by decide +kernel
theorem dX6_init_0 : decode cX6_init 0 = .ok (.aload_n 0, 1) := by decide +kernel
theorem dX6_init_1 : decode cX6_init 1 = .ok (.invokespecial 1, 3) := by decide +kernel
theorem dX6_init_4 : decode cX6_init 4 = .ok (.return_, 1) := by decide +kernel
theorem dX6_open_0 : decode cX6_open 0 = .ok (.aload_n 0, 1) := by decide +kernel
theorem dX6_open_1 : decode cX6_open 1 = .ok (.iload_n 1, 1) := by decide +kernel
theorem dX6_open_2 : decode cX6_open 2 = .ok (.putfield 7, 3) := by decide +kernel
theorem dX6_open_5 : decode cX6_open 5 = .ok (.aload_n 0, 1) := by decide +kernel
theorem dX6_open_6 : decode cX6_open 6 = .ok (.iload_n 2, 1) := by decide +kernel
theorem dX6_open_7 : decode cX6_open 7 = .ok (.putfield 13, 3) := by decide +kernel
theorem dX6_open_10 : decode cX6_open 10 = .ok (.aload_n 0, 1) := by decide +kernel
theorem dX6_open_11 : decode cX6_open 11 = .ok (.iload_n 3, 1) := by decide +kernel
theorem dX6_open_12 : decode cX6_open 12 = .ok (.putfield 16, 3) := by decide +kernel
theorem dX6_open_15 : decode cX6_open 15 = .ok (.aload_n 0, 1) := by decide +kernel
theorem dX6_open_16 : decode cX6_open 16 = .ok (.iload 4, 2) := by decide +kernel
theorem dX6_open_18 : decode cX6_open 18 = .ok (.putfield 19, 3) := by decide +kernel
theorem dX6_open_21 : decode cX6_open 21 = .ok (.aload_n 0, 1) := by decide +kernel
theorem dX6_open_22 : decode cX6_open 22 = .ok (.iload 4, 2) := by decide +kernel
theorem dX6_open_24 : decode cX6_open 24 = .ok (.putfield 22, 3) := by decide +kernel
theorem dX6_open_27 : decode cX6_open 27 = .ok (.aload_n 0, 1) := by decide +kernel
theorem dX6_open_28 : decode cX6_open 28 = .ok (.iconst 0, 1) := by decide +kernel
theorem dX6_open_29 : decode cX6_open 29 = .ok (.putfield 25, 3) := by decide +kernel
theorem dX6_open_32 : decode cX6_open 32 = .ok (.aload_n 0, 1) := by decide +kernel
theorem dX6_open_33 : decode cX6_open 33 = .ok (.iconst 0, 1) := by decide +kernel
theorem dX6_open_34 : decode cX6_open 34 = .ok (.putfield 28, 3) := by decide +kernel
theorem dX6_open_37 : decode cX6_open 37 = .ok (.return_, 1) := by decide +kernel
theorem dX6_copyFrom_0 : decode cX6_copyFrom 0 = .ok (.aload_n 0, 1) := by decide +kernel
theorem dX6_copyFrom_1 : decode cX6_copyFrom 1 = .ok (.aload_n 1, 1) := by decide +kernel
theorem dX6_copyFrom_2 : decode cX6_copyFrom 2 = .ok (.getfield 7, 3) := by decide +kernel
theorem dX6_copyFrom_5 : decode cX6_copyFrom 5 = .ok (.putfield 7, 3) := by decide +kernel
theorem dX6_copyFrom_8 : decode cX6_copyFrom 8 = .ok (.aload_n 0, 1) := by decide +kernel
theorem dX6_copyFrom_9 : decode cX6_copyFrom 9 = .ok (.aload_n 1, 1) := by decide +kernel
theorem dX6_copyFrom_10 : decode cX6_copyFrom 10 = .ok (.getfield 13, 3) := by decide +kernel
theorem dX6_copyFrom_13 : decode cX6_copyFrom 13 = .ok (.putfield 13, 3) := by decide +kernel
theorem dX6_copyFrom_16 : decode cX6_copyFrom 16 = .ok (.aload_n 0, 1) := by decide +kernel
theorem dX6_copyFrom_17 : decode cX6_copyFrom 17 = .ok (.aload_n 1, 1) := by decide +kernel
theorem dX6_copyFrom_18 : decode cX6_copyFrom 18 = .ok (.getfield 16, 3) := by decide +kernel
theorem dX6_copyFrom_21 : decode cX6_copyFrom 21 = .ok (.putfield 16, 3) := by decide +kernel
theorem dX6_copyFrom_24 : decode cX6_copyFrom 24 = .ok (.aload_n 0, 1) := by decide +kernel
theorem dX6_copyFrom_25 : decode cX6_copyFrom 25 = .ok (.aload_n 1, 1) := by decide +kernel
theorem dX6_copyFrom_26 : decode cX6_copyFrom 26 = .ok (.getfield 19, 3) := by decide +kernel
theorem dX6_copyFrom_29 : decode cX6_copyFrom 29 = .ok (.putfield 19, 3) := by decide +kernel
theorem dX6_copyFrom_32 : decode cX6_copyFrom 32 = .ok (.aload_n 0, 1) := by decide +kernel
theorem dX6_copyFrom_33 : decode cX6_copyFrom 33 = .ok (.aload_n 1, 1) := by decide +kernel
theorem dX6_copyFrom_34 : decode cX6_copyFrom 34 = .ok (.getfield 22, 3) := by decide +kernel
theorem dX6_copyFrom_37 : decode cX6_copyFrom 37 = .ok (.putfield 22, 3) := by decide +kernel
theorem dX6_copyFrom_40 : decode cX6_copyFrom 40 = .ok (.aload_n 0, 1) := by decide +kernel
theorem dX6_copyFrom_41 : decode cX6_copyFrom 41 = .ok (.aload_n 1, 1) := by decide +kernel
theorem dX6_copyFrom_42 : decode cX6_copyFrom 42 = .ok (.getfield 25, 3) := by decide +kernel
theorem dX6_copyFrom_45 : decode cX6_copyFrom 45 = .ok (.putfield 25, 3) := by decide +kernel
theorem dX6_copyFrom_48 : decode cX6_copyFrom 48 = .ok (.aload_n 0, 1) := by decide +kernel
theorem dX6_copyFrom_49 : decode cX6_copyFrom 49 = .ok (.aload_n 1, 1) := by decide +kernel
theorem dX6_copyFrom_50 : decode cX6_copyFrom 50 = .ok (.getfield 28, 3) := by decide +kernel
theorem dX6_copyFrom_53 : decode cX6_copyFrom 53 = .ok (.putfield 28, 3) := by decide +kernel
theorem dX6_copyFrom_56 : decode cX6_copyFrom 56 = .ok (.return_, 1) := by decide +kernel
theorem dX7_init_0 : decode cX7_init 0 = .ok (.aload_n 0, 1) := by decide +kernel
theorem dX7_init_1 : decode cX7_init 1 = .ok (.invokespecial 3, 3) := by decide +kernel
theorem dX7_init_4 : decode cX7_init 4 = .ok (.return_, 1) := by decide +kernel
theorem dX7_areOf_0 : decode cX7_areOf 0 = .ok (.aload_n 1, 1) := by decide +kernel
theorem dX7_areOf_1 : decode cX7_areOf 1 = .ok (.iload_n 2, 1) := by decide +kernel
theorem dX7_areOf_2 : decode cX7_areOf 2 = .ok (.invokevirtual 9, 3) := by decide +kernel
theorem dX7_areOf_5 : decode cX7_areOf 5 = .ok (.ifCond .ne 5, 3) := by decide +kernel
theorem dX7_areOf_8 : decode cX7_areOf 8 = .ok (.iconst 0, 1) := by decide +kernel
theorem dX7_areOf_9 : decode cX7_areOf 9 = .ok (.ireturn, 1) := by decide +kernel
theorem dX7_areOf_10 : decode cX7_areOf 10 = .ok (.aload_n 1, 1) := by decide +kernel
theorem dX7_areOf_11 : decode cX7_areOf 11 = .ok (.getfield 15, 3) := by decide +kernel
theorem dX7_areOf_14 : decode cX7_areOf 14 = .ok (.iload_n 2, 1) := by decide +kernel
theorem dX7_areOf_15 : decode cX7_areOf 15 = .ok (.aaload, 1) := by decide +kernel
theorem dX7_areOf_16 : decode cX7_areOf 16 = .ok (.astore 4, 2) := by decide +kernel
theorem dX7_areOf_18 : decode cX7_areOf 18 = .ok (.aload_n 0, 1) := by decide +kernel
theorem dX7_areOf_19 : decode cX7_areOf 19 = .ok (.iload_n 3, 1) := by decide +kernel
theorem dX7_areOf_20 : decode cX7_areOf 20 = .ok (.aload 4, 2) := by decide +kernel
theorem dX7_areOf_22 : decode cX7_areOf 22 = .ok (.getfield 19, 3) := by decide +kernel
theorem dX7_areOf_25 : decode cX7_areOf 25 = .ok (.invokestatic 25, 3) := by decide +kernel
theorem dX7_areOf_28 : decode cX7_areOf 28 = .ok (.imul, 1) := by decide +kernel
theorem dX7_areOf_29 : decode cX7_areOf 29 = .ok (.sipush 1000, 3) := by decide +kernel
theorem dX7_areOf_32 : decode cX7_areOf 32 = .ok (.idiv, 1) := by decide +kernel
theorem dX7_areOf_33 : decode cX7_areOf 33 = .ok (.putfield 29, 3) := by decide +kernel
theorem dX7_areOf_36 : decode cX7_areOf 36 = .ok (.iload_n 3, 1) := by decide +kernel
theorem dX7_areOf_37 : decode cX7_areOf 37 = .ok (.aload_n 0, 1) := by decide +kernel
theorem dX7_areOf_38 : decode cX7_areOf 38 = .ok (.getfield 29, 3) := by decide +kernel
theorem dX7_areOf_41 : decode cX7_areOf 41 = .ok (.isub, 1) := by decide +kernel
theorem dX7_areOf_42 : decode cX7_areOf 42 = .ok (.istore 5, 2) := by decide +kernel
theorem dX7_areOf_44 : decode cX7_areOf 44 = .ok (.iload 5, 2) := by decide +kernel
theorem dX7_areOf_46 : decode cX7_areOf 46 = .ok (.aload 4, 2) := by decide +kernel
theorem dX7_areOf_48 : decode cX7_areOf 48 = .ok (.getfield 34, 3) := by decide +kernel
theorem dX7_areOf_51 : decode cX7_areOf 51 = .ok (.aload 4, 2) := by decide +kernel
theorem dX7_areOf_53 : decode cX7_areOf 53 = .ok (.getfield 37, 3) := by decide +kernel
theorem dX7_areOf_56 : decode cX7_areOf 56 = .ok (.iadd, 1) := by decide +kernel
theorem dX7_areOf_57 : decode cX7_areOf 57 = .ok (.if_icmp .le 5, 3) := by decide +kernel
theorem dX7_areOf_60 : decode cX7_areOf 60 = .ok (.iconst 0, 1) := by decide +kernel
theorem dX7_areOf_61 : decode cX7_areOf 61 = .ok (.ireturn, 1) := by decide +kernel
theorem dX7_areOf_62 : decode cX7_areOf 62 = .ok (.aload_n 0, 1) := by decide +kernel
theorem dX7_areOf_63 : decode cX7_areOf 63 = .ok (.iload 5, 2) := by decide +kernel
theorem dX7_areOf_65 : decode cX7_areOf 65 = .ok (.aload 4, 2) := by decide +kernel
theorem dX7_areOf_67 : decode cX7_areOf 67 = .ok (.getfield 34, 3) := by decide +kernel
theorem dX7_areOf_70 : decode cX7_areOf 70 = .ok (.invokestatic 40, 3) := by decide +kernel
theorem dX7_areOf_73 : decode cX7_areOf 73 = .ok (.putfield 46, 3) := by decide +kernel
theorem dX7_areOf_76 : decode cX7_areOf 76 = .ok (.aload_n 0, 1) := by decide +kernel
theorem dX7_areOf_77 : decode cX7_areOf 77 = .ok (.aload_n 0, 1) := by decide +kernel
theorem dX7_areOf_78 : decode cX7_areOf 78 = .ok (.getfield 46, 3) := by decide +kernel
theorem dX7_areOf_81 : decode cX7_areOf 81 = .ok (.aload_n 1, 1) := by decide +kernel
theorem dX7_areOf_82 : decode cX7_areOf 82 = .ok (.getfield 49, 3) := by decide +kernel
theorem dX7_areOf_85 : decode cX7_areOf 85 = .ok (.imul, 1) := by decide +kernel
theorem dX7_areOf_86 : decode cX7_areOf 86 = .ok (.bipush 100, 2) := by decide +kernel
theorem dX7_areOf_88 : decode cX7_areOf 88 = .ok (.idiv, 1) := by decide +kernel
theorem dX7_areOf_89 : decode cX7_areOf 89 = .ok (.putfield 52, 3) := by decide +kernel
theorem dX7_areOf_92 : decode cX7_areOf 92 = .ok (.aload_n 0, 1) := by decide +kernel
theorem dX7_areOf_93 : decode cX7_areOf 93 = .ok (.iload 5, 2) := by decide +kernel
theorem dX7_areOf_95 : decode cX7_areOf 95 = .ok (.aload_n 0, 1) := by decide +kernel
theorem dX7_areOf_96 : decode cX7_areOf 96 = .ok (.getfield 46, 3) := by decide +kernel
theorem dX7_areOf_99 : decode cX7_areOf 99 = .ok (.isub, 1) := by decide +kernel
theorem dX7_areOf_100 : decode cX7_areOf 100 = .ok (.putfield 55, 3) := by decide +kernel
theorem dX7_areOf_103 : decode cX7_areOf 103 = .ok (.aload_n 0, 1) := by decide +kernel
theorem dX7_areOf_104 : decode cX7_areOf 104 = .ok (.aload_n 0, 1) := by decide +kernel
theorem dX7_areOf_105 : decode cX7_areOf 105 = .ok (.getfield 55, 3) := by decide +kernel
theorem dX7_areOf_108 : decode cX7_areOf 108 = .ok (.aload_n 1, 1) := by decide +kernel
theorem dX7_areOf_109 : decode cX7_areOf 109 = .ok (.iload_n 2, 1) := by decide +kernel
theorem dX7_areOf_110 : decode cX7_areOf 110 = .ok (.iconst 0, 1) := by decide +kernel
theorem dX7_areOf_111 : decode cX7_areOf 111 = .ok (.invokevirtual 56, 3) := by decide +kernel
theorem dX7_areOf_114 : decode cX7_areOf 114 = .ok (.invokestatic 40, 3) := by decide +kernel
theorem dX7_areOf_117 : decode cX7_areOf 117 = .ok (.putfield 59, 3) := by decide +kernel
theorem dX7_areOf_120 : decode cX7_areOf 120 = .ok (.aload_n 0, 1) := by decide +kernel
theorem dX7_areOf_121 : decode cX7_areOf 121 = .ok (.aload_n 0, 1) := by decide +kernel
theorem dX7_areOf_122 : decode cX7_areOf 122 = .ok (.getfield 55, 3) := by decide +kernel
theorem dX7_areOf_125 : decode cX7_areOf 125 = .ok (.aload_n 0, 1) := by decide +kernel
theorem dX7_areOf_126 : decode cX7_areOf 126 = .ok (.getfield 59, 3) := by decide +kernel
theorem dX7_areOf_129 : decode cX7_areOf 129 = .ok (.isub, 1) := by decide +kernel
theorem dX7_areOf_130 : decode cX7_areOf 130 = .ok (.putfield 62, 3) := by decide +kernel
theorem dX7_areOf_133 : decode cX7_areOf 133 = .ok (.iconst 1, 1) := by decide +kernel
theorem dX7_areOf_134 : decode cX7_areOf 134 = .ok (.ireturn, 1) := by decide +kernel
theorem dX8_init_0 : decode cX8_init 0 = .ok (.aload_n 0, 1) := by decide +kernel
theorem dX8_init_1 : decode cX8_init 1 = .ok (.invokespecial 3, 3) := by decide +kernel
theorem dX8_init_4 : decode cX8_init 4 = .ok (.aload_n 0, 1) := by decide +kernel
theorem dX8_init_5 : decode cX8_init 5 = .ok (.bipush 60, 2) := by decide +kernel
theorem dX8_init_7 : decode cX8_init 7 = .ok (.newarray .int, 2) := by decide +kernel
theorem dX8_init_9 : decode cX8_init 9 = .ok (.putfield 9, 3) := by decide +kernel
theorem dX8_init_12 : decode cX8_init 12 = .ok (.aload_n 0, 1) := by decide +kernel
theorem dX8_init_13 : decode cX8_init 13 = .ok (.bipush 60, 2) := by decide +kernel
theorem dX8_init_15 : decode cX8_init 15 = .ok (.newarray .int, 2) := by decide +kernel
theorem dX8_init_17 : decode cX8_init 17 = .ok (.putfield 15, 3) := by decide +kernel
theorem dX8_init_20 : decode cX8_init 20 = .ok (.aload_n 0, 1) := by decide +kernel
theorem dX8_init_21 : decode cX8_init 21 = .ok (.bipush 60, 2) := by decide +kernel
theorem dX8_init_23 : decode cX8_init 23 = .ok (.newarray .int, 2) := by decide +kernel
theorem dX8_init_25 : decode cX8_init 25 = .ok (.putfield 18, 3) := by decide +kernel
theorem dX8_init_28 : decode cX8_init 28 = .ok (.return_, 1) := by decide +kernel
theorem dX8_ofGivingUp_0 : decode cX8_ofGivingUp 0 = .ok (.aload_n 0, 1) := by decide +kernel
theorem dX8_ofGivingUp_1 : decode cX8_ofGivingUp 1 = .ok (.invokevirtual 21, 3) := by decide +kernel
theorem dX8_ofGivingUp_4 : decode cX8_ofGivingUp 4 = .ok (.aload_n 0, 1) := by decide +kernel
theorem dX8_ofGivingUp_5 : decode cX8_ofGivingUp 5 = .ok (.aload_n 1, 1) := by decide +kernel
theorem dX8_ofGivingUp_6 : decode cX8_ofGivingUp 6 = .ok (.iload_n 2, 1) := by decide +kernel
theorem dX8_ofGivingUp_7 : decode cX8_ofGivingUp 7 = .ok (.iconst 1, 1) := by decide +kernel
theorem dX8_ofGivingUp_8 : decode cX8_ofGivingUp 8 = .ok (.iconst 1, 1) := by decide +kernel
theorem dX8_ofGivingUp_9 : decode cX8_ofGivingUp 9 = .ok (.invokevirtual 24, 3) := by decide +kernel
theorem dX8_ofGivingUp_12 : decode cX8_ofGivingUp 12 = .ok (.iconst 0, 1) := by decide +kernel
theorem dX8_ofGivingUp_13 : decode cX8_ofGivingUp 13 = .ok (.istore_n 3, 1) := by decide +kernel
theorem dX8_ofGivingUp_14 : decode cX8_ofGivingUp 14 = .ok (.iload_n 3, 1) := by decide +kernel
theorem dX8_ofGivingUp_15 : decode cX8_ofGivingUp 15 = .ok (.aload_n 0, 1) := by decide +kernel
theorem dX8_ofGivingUp_16 : decode cX8_ofGivingUp 16 = .ok (.getfield 15, 3) := by decide +kernel
theorem dX8_ofGivingUp_19 : decode cX8_ofGivingUp 19 = .ok (.arraylength, 1) := by decide +kernel
theorem dX8_ofGivingUp_20 : decode cX8_ofGivingUp 20 = .ok (.if_icmp .ge 21, 3) := by decide +kernel
theorem dX8_ofGivingUp_23 : decode cX8_ofGivingUp 23 = .ok (.aload_n 0, 1) := by decide +kernel
theorem dX8_ofGivingUp_24 : decode cX8_ofGivingUp 24 = .ok (.getfield 15, 3) := by decide +kernel
theorem dX8_ofGivingUp_27 : decode cX8_ofGivingUp 27 = .ok (.iload_n 3, 1) := by decide +kernel
theorem dX8_ofGivingUp_28 : decode cX8_ofGivingUp 28 = .ok (.aload_n 0, 1) := by decide +kernel
theorem dX8_ofGivingUp_29 : decode cX8_ofGivingUp 29 = .ok (.getfield 18, 3) := by decide +kernel
theorem dX8_ofGivingUp_32 : decode cX8_ofGivingUp 32 = .ok (.iload_n 3, 1) := by decide +kernel
theorem dX8_ofGivingUp_33 : decode cX8_ofGivingUp 33 = .ok (.iaload, 1) := by decide +kernel
theorem dX8_ofGivingUp_34 : decode cX8_ofGivingUp 34 = .ok (.iastore, 1) := by decide +kernel
theorem dX8_ofGivingUp_35 : decode cX8_ofGivingUp 35 = .ok (.iinc 3 1, 3) := by decide +kernel
theorem dX8_ofGivingUp_38 : decode cX8_ofGivingUp 38 = .ok (.goto (-24), 3) := by decide +kernel
theorem dX8_ofGivingUp_41 : decode cX8_ofGivingUp 41 = .ok (.return_, 1) := by decide +kernel
theorem dX8_ofPayment_0 : decode cX8_ofPayment 0 = .ok (.aload_n 0, 1) := by decide +kernel
theorem dX8_ofPayment_1 : decode cX8_ofPayment 1 = .ok (.invokevirtual 21, 3) := by decide +kernel
theorem dX8_ofPayment_4 : decode cX8_ofPayment 4 = .ok (.aload_n 0, 1) := by decide +kernel
theorem dX8_ofPayment_5 : decode cX8_ofPayment 5 = .ok (.aload_n 1, 1) := by decide +kernel
theorem dX8_ofPayment_6 : decode cX8_ofPayment 6 = .ok (.iload_n 2, 1) := by decide +kernel
theorem dX8_ofPayment_7 : decode cX8_ofPayment 7 = .ok (.iconst 1, 1) := by decide +kernel
theorem dX8_ofPayment_8 : decode cX8_ofPayment 8 = .ok (.iconst 1, 1) := by decide +kernel
theorem dX8_ofPayment_9 : decode cX8_ofPayment 9 = .ok (.invokevirtual 24, 3) := by decide +kernel
theorem dX8_ofPayment_12 : decode cX8_ofPayment 12 = .ok (.aload_n 0, 1) := by decide +kernel
theorem dX8_ofPayment_13 : decode cX8_ofPayment 13 = .ok (.aload_n 3, 1) := by decide +kernel
theorem dX8_ofPayment_14 : decode cX8_ofPayment 14 = .ok (.getfield 28, 3) := by decide +kernel
theorem dX8_ofPayment_17 : decode cX8_ofPayment 17 = .ok (.aload_n 3, 1) := by decide +kernel
theorem dX8_ofPayment_18 : decode cX8_ofPayment 18 = .ok (.getfield 33, 3) := by decide +kernel
theorem dX8_ofPayment_21 : decode cX8_ofPayment 21 = .ok (.isub, 1) := by decide +kernel
theorem dX8_ofPayment_22 : decode cX8_ofPayment 22 = .ok (.aload_n 0, 1) := by decide +kernel
theorem dX8_ofPayment_23 : decode cX8_ofPayment 23 = .ok (.getfield 9, 3) := by decide +kernel
theorem dX8_ofPayment_26 : decode cX8_ofPayment 26 = .ok (.invokevirtual 36, 3) := by decide +kernel
theorem dX8_ofPayment_29 : decode cX8_ofPayment 29 = .ok (.aload_n 0, 1) := by decide +kernel
theorem dX8_ofPayment_30 : decode cX8_ofPayment 30 = .ok (.aload_n 1, 1) := by decide +kernel
theorem dX8_ofPayment_31 : decode cX8_ofPayment 31 = .ok (.iload_n 2, 1) := by decide +kernel
theorem dX8_ofPayment_32 : decode cX8_ofPayment 32 = .ok (.aload_n 3, 1) := by decide +kernel
theorem dX8_ofPayment_33 : decode cX8_ofPayment 33 = .ok (.getfield 40, 3) := by decide +kernel
theorem dX8_ofPayment_36 : decode cX8_ofPayment 36 = .ok (.aload_n 3, 1) := by decide +kernel
theorem dX8_ofPayment_37 : decode cX8_ofPayment 37 = .ok (.getfield 43, 3) := by decide +kernel
theorem dX8_ofPayment_40 : decode cX8_ofPayment 40 = .ok (.invokevirtual 46, 3) := by decide +kernel
theorem dX8_ofPayment_43 : decode cX8_ofPayment 43 = .ok (.return_, 1) := by decide +kernel
theorem dX8_ofSale_0 : decode cX8_ofSale 0 = .ok (.aload_n 0, 1) := by decide +kernel
theorem dX8_ofSale_1 : decode cX8_ofSale 1 = .ok (.invokevirtual 21, 3) := by decide +kernel
theorem dX8_ofSale_4 : decode cX8_ofSale 4 = .ok (.aload_n 1, 1) := by decide +kernel
theorem dX8_ofSale_5 : decode cX8_ofSale 5 = .ok (.iload_n 2, 1) := by decide +kernel
theorem dX8_ofSale_6 : decode cX8_ofSale 6 = .ok (.iconst 0, 1) := by decide +kernel
theorem dX8_ofSale_7 : decode cX8_ofSale 7 = .ok (.invokevirtual 50, 3) := by decide +kernel
theorem dX8_ofSale_10 : decode cX8_ofSale 10 = .ok (.istore 4, 2) := by decide +kernel
theorem dX8_ofSale_12 : decode cX8_ofSale 12 = .ok (.iload_n 3, 1) := by decide +kernel
theorem dX8_ofSale_13 : decode cX8_ofSale 13 = .ok (.iload 4, 2) := by decide +kernel
theorem dX8_ofSale_15 : decode cX8_ofSale 15 = .ok (.invokestatic 56, 3) := by decide +kernel
theorem dX8_ofSale_18 : decode cX8_ofSale 18 = .ok (.istore 5, 2) := by decide +kernel
theorem dX8_ofSale_20 : decode cX8_ofSale 20 = .ok (.iload_n 3, 1) := by decide +kernel
theorem dX8_ofSale_21 : decode cX8_ofSale 21 = .ok (.iload 5, 2) := by decide +kernel
theorem dX8_ofSale_23 : decode cX8_ofSale 23 = .ok (.isub, 1) := by decide +kernel
theorem dX8_ofSale_24 : decode cX8_ofSale 24 = .ok (.aload_n 1, 1) := by decide +kernel
theorem dX8_ofSale_25 : decode cX8_ofSale 25 = .ok (.iload_n 2, 1) := by decide +kernel
theorem dX8_ofSale_26 : decode cX8_ofSale 26 = .ok (.iconst 1, 1) := by decide +kernel
theorem dX8_ofSale_27 : decode cX8_ofSale 27 = .ok (.invokevirtual 50, 3) := by decide +kernel
theorem dX8_ofSale_30 : decode cX8_ofSale 30 = .ok (.invokestatic 56, 3) := by decide +kernel
theorem dX8_ofSale_33 : decode cX8_ofSale 33 = .ok (.istore 6, 2) := by decide +kernel
theorem dX8_ofSale_35 : decode cX8_ofSale 35 = .ok (.aload_n 0, 1) := by decide +kernel
theorem dX8_ofSale_36 : decode cX8_ofSale 36 = .ok (.aload_n 1, 1) := by decide +kernel
theorem dX8_ofSale_37 : decode cX8_ofSale 37 = .ok (.iload_n 2, 1) := by decide +kernel
theorem dX8_ofSale_38 : decode cX8_ofSale 38 = .ok (.iload 5, 2) := by decide +kernel
theorem dX8_ofSale_40 : decode cX8_ofSale 40 = .ok (.iload 6, 2) := by decide +kernel
theorem dX8_ofSale_42 : decode cX8_ofSale 42 = .ok (.invokevirtual 46, 3) := by decide +kernel
theorem dX8_ofSale_45 : decode cX8_ofSale 45 = .ok (.aload_n 1, 1) := by decide +kernel
theorem dX8_ofSale_46 : decode cX8_ofSale 46 = .ok (.getfield 61, 3) := by decide +kernel
theorem dX8_ofSale_49 : decode cX8_ofSale 49 = .ok (.iload_n 3, 1) := by decide +kernel
theorem dX8_ofSale_50 : decode cX8_ofSale 50 = .ok (.iload 5, 2) := by decide +kernel
theorem dX8_ofSale_52 : decode cX8_ofSale 52 = .ok (.isub, 1) := by decide +kernel
theorem dX8_ofSale_53 : decode cX8_ofSale 53 = .ok (.iload 6, 2) := by decide +kernel
theorem dX8_ofSale_55 : decode cX8_ofSale 55 = .ok (.isub, 1) := by decide +kernel
theorem dX8_ofSale_56 : decode cX8_ofSale 56 = .ok (.iadd, 1) := by decide +kernel
theorem dX8_ofSale_57 : decode cX8_ofSale 57 = .ok (.istore 7, 2) := by decide +kernel
theorem dX8_ofSale_59 : decode cX8_ofSale 59 = .ok (.iload 7, 2) := by decide +kernel
theorem dX8_ofSale_61 : decode cX8_ofSale 61 = .ok (.iload 4, 2) := by decide +kernel
theorem dX8_ofSale_63 : decode cX8_ofSale 63 = .ok (.iload 5, 2) := by decide +kernel
theorem dX8_ofSale_65 : decode cX8_ofSale 65 = .ok (.isub, 1) := by decide +kernel
theorem dX8_ofSale_66 : decode cX8_ofSale 66 = .ok (.invokestatic 56, 3) := by decide +kernel
theorem dX8_ofSale_69 : decode cX8_ofSale 69 = .ok (.istore 8, 2) := by decide +kernel
theorem dX8_ofSale_71 : decode cX8_ofSale 71 = .ok (.aload_n 0, 1) := by decide +kernel
theorem dX8_ofSale_72 : decode cX8_ofSale 72 = .ok (.aload_n 1, 1) := by decide +kernel
theorem dX8_ofSale_73 : decode cX8_ofSale 73 = .ok (.iload_n 2, 1) := by decide +kernel
theorem dX8_ofSale_74 : decode cX8_ofSale 74 = .ok (.iconst 1, 1) := by decide +kernel
theorem dX8_ofSale_75 : decode cX8_ofSale 75 = .ok (.iconst 0, 1) := by decide +kernel
theorem dX8_ofSale_76 : decode cX8_ofSale 76 = .ok (.invokevirtual 24, 3) := by decide +kernel
theorem dX8_ofSale_79 : decode cX8_ofSale 79 = .ok (.iconst 0, 1) := by decide +kernel
theorem dX8_ofSale_80 : decode cX8_ofSale 80 = .ok (.istore 9, 2) := by decide +kernel
theorem dX8_ofSale_82 : decode cX8_ofSale 82 = .ok (.iload 9, 2) := by decide +kernel
theorem dX8_ofSale_84 : decode cX8_ofSale 84 = .ok (.aload_n 0, 1) := by decide +kernel
theorem dX8_ofSale_85 : decode cX8_ofSale 85 = .ok (.getfield 18, 3) := by decide +kernel
theorem dX8_ofSale_88 : decode cX8_ofSale 88 = .ok (.arraylength, 1) := by decide +kernel
theorem dX8_ofSale_89 : decode cX8_ofSale 89 = .ok (.if_icmp .ge 35, 3) := by decide +kernel
theorem dX8_ofSale_92 : decode cX8_ofSale 92 = .ok (.aload_n 0, 1) := by decide +kernel
theorem dX8_ofSale_93 : decode cX8_ofSale 93 = .ok (.getfield 18, 3) := by decide +kernel
theorem dX8_ofSale_96 : decode cX8_ofSale 96 = .ok (.iload 9, 2) := by decide +kernel
theorem dX8_ofSale_98 : decode cX8_ofSale 98 = .ok (.iconst 0, 1) := by decide +kernel
theorem dX8_ofSale_99 : decode cX8_ofSale 99 = .ok (.aload_n 0, 1) := by decide +kernel
theorem dX8_ofSale_100 : decode cX8_ofSale 100 = .ok (.getfield 18, 3) := by decide +kernel
theorem dX8_ofSale_103 : decode cX8_ofSale 103 = .ok (.iload 9, 2) := by decide +kernel
theorem dX8_ofSale_105 : decode cX8_ofSale 105 = .ok (.iaload, 1) := by decide +kernel
theorem dX8_ofSale_106 : decode cX8_ofSale 106 = .ok (.aload_n 0, 1) := by decide +kernel
theorem dX8_ofSale_107 : decode cX8_ofSale 107 = .ok (.getfield 15, 3) := by decide +kernel
theorem dX8_ofSale_110 : decode cX8_ofSale 110 = .ok (.iload 9, 2) := by decide +kernel
theorem dX8_ofSale_112 : decode cX8_ofSale 112 = .ok (.iaload, 1) := by decide +kernel
theorem dX8_ofSale_113 : decode cX8_ofSale 113 = .ok (.isub, 1) := by decide +kernel
theorem dX8_ofSale_114 : decode cX8_ofSale 114 = .ok (.invokestatic 64, 3) := by decide +kernel
theorem dX8_ofSale_117 : decode cX8_ofSale 117 = .ok (.iastore, 1) := by decide +kernel
theorem dX8_ofSale_118 : decode cX8_ofSale 118 = .ok (.iinc 9 1, 3) := by decide +kernel
theorem dX8_ofSale_121 : decode cX8_ofSale 121 = .ok (.goto (-39), 3) := by decide +kernel
theorem dX8_ofSale_124 : decode cX8_ofSale 124 = .ok (.aload_n 0, 1) := by decide +kernel
theorem dX8_ofSale_125 : decode cX8_ofSale 125 = .ok (.iload 8, 2) := by decide +kernel
theorem dX8_ofSale_127 : decode cX8_ofSale 127 = .ok (.aload_n 0, 1) := by decide +kernel
theorem dX8_ofSale_128 : decode cX8_ofSale 128 = .ok (.getfield 15, 3) := by decide +kernel
theorem dX8_ofSale_131 : decode cX8_ofSale 131 = .ok (.invokevirtual 36, 3) := by decide +kernel
theorem dX8_ofSale_134 : decode cX8_ofSale 134 = .ok (.iload 7, 2) := by decide +kernel
theorem dX8_ofSale_136 : decode cX8_ofSale 136 = .ok (.iload 8, 2) := by decide +kernel
theorem dX8_ofSale_138 : decode cX8_ofSale 138 = .ok (.isub, 1) := by decide +kernel
theorem dX8_ofSale_139 : decode cX8_ofSale 139 = .ok (.ireturn, 1) := by decide +kernel
theorem dX8_fits_0 : decode cX8_fits 0 = .ok (.iconst 0, 1) := by decide +kernel
theorem dX8_fits_1 : decode cX8_fits 1 = .ok (.istore_n 2, 1) := by decide +kernel
theorem dX8_fits_2 : decode cX8_fits 2 = .ok (.iload_n 2, 1) := by decide +kernel
theorem dX8_fits_3 : decode cX8_fits 3 = .ok (.aload_n 1, 1) := by decide +kernel
theorem dX8_fits_4 : decode cX8_fits 4 = .ok (.getfield 67, 3) := by decide +kernel
theorem dX8_fits_7 : decode cX8_fits 7 = .ok (.if_icmp .ge 81, 3) := by decide +kernel
theorem dX8_fits_10 : decode cX8_fits 10 = .ok (.aload_n 1, 1) := by decide +kernel
theorem dX8_fits_11 : decode cX8_fits 11 = .ok (.getfield 70, 3) := by decide +kernel
theorem dX8_fits_14 : decode cX8_fits 14 = .ok (.iload_n 2, 1) := by decide +kernel
theorem dX8_fits_15 : decode cX8_fits 15 = .ok (.aaload, 1) := by decide +kernel
theorem dX8_fits_16 : decode cX8_fits 16 = .ok (.getfield 74, 3) := by decide +kernel
theorem dX8_fits_19 : decode cX8_fits 19 = .ok (.i2l, 1) := by decide +kernel
theorem dX8_fits_20 : decode cX8_fits 20 = .ok (.lstore_n 3, 1) := by decide +kernel
theorem dX8_fits_21 : decode cX8_fits 21 = .ok (.iconst 0, 1) := by decide +kernel
theorem dX8_fits_22 : decode cX8_fits 22 = .ok (.istore 5, 2) := by decide +kernel
theorem dX8_fits_24 : decode cX8_fits 24 = .ok (.iload 5, 2) := by decide +kernel
theorem dX8_fits_26 : decode cX8_fits 26 = .ok (.aload_n 1, 1) := by decide +kernel
theorem dX8_fits_27 : decode cX8_fits 27 = .ok (.getfield 79, 3) := by decide +kernel
theorem dX8_fits_30 : decode cX8_fits 30 = .ok (.if_icmp .ge 42, 3) := by decide +kernel
theorem dX8_fits_33 : decode cX8_fits 33 = .ok (.aload_n 1, 1) := by decide +kernel
theorem dX8_fits_34 : decode cX8_fits 34 = .ok (.getfield 82, 3) := by decide +kernel
theorem dX8_fits_37 : decode cX8_fits 37 = .ok (.iload 5, 2) := by decide +kernel
theorem dX8_fits_39 : decode cX8_fits 39 = .ok (.aaload, 1) := by decide +kernel
theorem dX8_fits_40 : decode cX8_fits 40 = .ok (.getfield 86, 3) := by decide +kernel
theorem dX8_fits_43 : decode cX8_fits 43 = .ok (.iload_n 2, 1) := by decide +kernel
theorem dX8_fits_44 : decode cX8_fits 44 = .ok (.if_icmp .ne 22, 3) := by decide +kernel
theorem dX8_fits_47 : decode cX8_fits 47 = .ok (.lload_n 3, 1) := by decide +kernel
theorem dX8_fits_48 : decode cX8_fits 48 = .ok (.aload_n 0, 1) := by decide +kernel
theorem dX8_fits_49 : decode cX8_fits 49 = .ok (.getfield 9, 3) := by decide +kernel
theorem dX8_fits_52 : decode cX8_fits 52 = .ok (.iload 5, 2) := by decide +kernel
theorem dX8_fits_54 : decode cX8_fits 54 = .ok (.iaload, 1) := by decide +kernel
theorem dX8_fits_55 : decode cX8_fits 55 = .ok (.aload_n 0, 1) := by decide +kernel
theorem dX8_fits_56 : decode cX8_fits 56 = .ok (.getfield 15, 3) := by decide +kernel
theorem dX8_fits_59 : decode cX8_fits 59 = .ok (.iload 5, 2) := by decide +kernel
theorem dX8_fits_61 : decode cX8_fits 61 = .ok (.iaload, 1) := by decide +kernel
theorem dX8_fits_62 : decode cX8_fits 62 = .ok (.iadd, 1) := by decide +kernel
theorem dX8_fits_63 : decode cX8_fits 63 = .ok (.i2l, 1) := by decide +kernel
theorem dX8_fits_64 : decode cX8_fits 64 = .ok (.ladd, 1) := by decide +kernel
theorem dX8_fits_65 : decode cX8_fits 65 = .ok (.lstore_n 3, 1) := by decide +kernel
theorem dX8_fits_66 : decode cX8_fits 66 = .ok (.iinc 5 1, 3) := by decide +kernel
theorem dX8_fits_69 : decode cX8_fits 69 = .ok (.goto (-45), 3) := by decide +kernel
theorem dX8_fits_72 : decode cX8_fits 72 = .ok (.lload_n 3, 1) := by decide +kernel
theorem dX8_fits_73 : decode cX8_fits 73 = .ok (.ldc2_w 91, 3) := by decide +kernel
theorem dX8_fits_76 : decode cX8_fits 76 = .ok (.lcmp, 1) := by decide +kernel
theorem dX8_fits_77 : decode cX8_fits 77 = .ok (.ifCond .le 5, 3) := by decide +kernel
theorem dX8_fits_80 : decode cX8_fits 80 = .ok (.iconst 0, 1) := by decide +kernel
theorem dX8_fits_81 : decode cX8_fits 81 = .ok (.ireturn, 1) := by decide +kernel
theorem dX8_fits_82 : decode cX8_fits 82 = .ok (.iinc 2 1, 3) := by decide +kernel
theorem dX8_fits_85 : decode cX8_fits 85 = .ok (.goto (-83), 3) := by decide +kernel
theorem dX8_fits_88 : decode cX8_fits 88 = .ok (.iconst 1, 1) := by decide +kernel
theorem dX8_fits_89 : decode cX8_fits 89 = .ok (.ireturn, 1) := by decide +kernel
theorem dX8_carryOut_0 : decode cX8_carryOut 0 = .ok (.iconst 0, 1) := by decide +kernel
theorem dX8_carryOut_1 : decode cX8_carryOut 1 = .ok (.istore_n 2, 1) := by decide +kernel
theorem dX8_carryOut_2 : decode cX8_carryOut 2 = .ok (.iload_n 2, 1) := by decide +kernel
theorem dX8_carryOut_3 : decode cX8_carryOut 3 = .ok (.aload_n 1, 1) := by decide +kernel
theorem dX8_carryOut_4 : decode cX8_carryOut 4 = .ok (.getfield 79, 3) := by decide +kernel
theorem dX8_carryOut_7 : decode cX8_carryOut 7 = .ok (.if_icmp .ge 101, 3) := by decide +kernel
theorem dX8_carryOut_10 : decode cX8_carryOut 10 = .ok (.aload_n 1, 1) := by decide +kernel
theorem dX8_carryOut_11 : decode cX8_carryOut 11 = .ok (.getfield 82, 3) := by decide +kernel
theorem dX8_carryOut_14 : decode cX8_carryOut 14 = .ok (.iload_n 2, 1) := by decide +kernel
theorem dX8_carryOut_15 : decode cX8_carryOut 15 = .ok (.aaload, 1) := by decide +kernel
theorem dX8_carryOut_16 : decode cX8_carryOut 16 = .ok (.astore_n 3, 1) := by decide +kernel
theorem dX8_carryOut_17 : decode cX8_carryOut 17 = .ok (.aload_n 3, 1) := by decide +kernel
theorem dX8_carryOut_18 : decode cX8_carryOut 18 = .ok (.dup, 1) := by decide +kernel
theorem dX8_carryOut_19 : decode cX8_carryOut 19 = .ok (.getfield 93, 3) := by decide +kernel
theorem dX8_carryOut_22 : decode cX8_carryOut 22 = .ok (.aload_n 0, 1) := by decide +kernel
theorem dX8_carryOut_23 : decode cX8_carryOut 23 = .ok (.getfield 9, 3) := by decide +kernel
theorem dX8_carryOut_26 : decode cX8_carryOut 26 = .ok (.iload_n 2, 1) := by decide +kernel
theorem dX8_carryOut_27 : decode cX8_carryOut 27 = .ok (.iaload, 1) := by decide +kernel
theorem dX8_carryOut_28 : decode cX8_carryOut 28 = .ok (.iadd, 1) := by decide +kernel
theorem dX8_carryOut_29 : decode cX8_carryOut 29 = .ok (.putfield 93, 3) := by decide +kernel
theorem dX8_carryOut_32 : decode cX8_carryOut 32 = .ok (.aload_n 3, 1) := by decide +kernel
theorem dX8_carryOut_33 : decode cX8_carryOut 33 = .ok (.dup, 1) := by decide +kernel
theorem dX8_carryOut_34 : decode cX8_carryOut 34 = .ok (.getfield 94, 3) := by decide +kernel
theorem dX8_carryOut_37 : decode cX8_carryOut 37 = .ok (.aload_n 0, 1) := by decide +kernel
theorem dX8_carryOut_38 : decode cX8_carryOut 38 = .ok (.getfield 15, 3) := by decide +kernel
theorem dX8_carryOut_41 : decode cX8_carryOut 41 = .ok (.iload_n 2, 1) := by decide +kernel
theorem dX8_carryOut_42 : decode cX8_carryOut 42 = .ok (.iaload, 1) := by decide +kernel
theorem dX8_carryOut_43 : decode cX8_carryOut 43 = .ok (.isub, 1) := by decide +kernel
theorem dX8_carryOut_44 : decode cX8_carryOut 44 = .ok (.putfield 94, 3) := by decide +kernel
theorem dX8_carryOut_47 : decode cX8_carryOut 47 = .ok (.aload_n 1, 1) := by decide +kernel
theorem dX8_carryOut_48 : decode cX8_carryOut 48 = .ok (.aload_n 3, 1) := by decide +kernel
theorem dX8_carryOut_49 : decode cX8_carryOut 49 = .ok (.getfield 86, 3) := by decide +kernel
theorem dX8_carryOut_52 : decode cX8_carryOut 52 = .ok (.invokevirtual 96, 3) := by decide +kernel
theorem dX8_carryOut_55 : decode cX8_carryOut 55 = .ok (.ifCond .eq 47, 3) := by decide +kernel
theorem dX8_carryOut_58 : decode cX8_carryOut 58 = .ok (.aload_n 1, 1) := by decide +kernel
theorem dX8_carryOut_59 : decode cX8_carryOut 59 = .ok (.getfield 70, 3) := by decide +kernel
theorem dX8_carryOut_62 : decode cX8_carryOut 62 = .ok (.aload_n 3, 1) := by decide +kernel
theorem dX8_carryOut_63 : decode cX8_carryOut 63 = .ok (.getfield 86, 3) := by decide +kernel
theorem dX8_carryOut_66 : decode cX8_carryOut 66 = .ok (.aaload, 1) := by decide +kernel
theorem dX8_carryOut_67 : decode cX8_carryOut 67 = .ok (.dup, 1) := by decide +kernel
theorem dX8_carryOut_68 : decode cX8_carryOut 68 = .ok (.getfield 100, 3) := by decide +kernel
theorem dX8_carryOut_71 : decode cX8_carryOut 71 = .ok (.aload_n 0, 1) := by decide +kernel
theorem dX8_carryOut_72 : decode cX8_carryOut 72 = .ok (.getfield 9, 3) := by decide +kernel
theorem dX8_carryOut_75 : decode cX8_carryOut 75 = .ok (.iload_n 2, 1) := by decide +kernel
theorem dX8_carryOut_76 : decode cX8_carryOut 76 = .ok (.iaload, 1) := by decide +kernel
theorem dX8_carryOut_77 : decode cX8_carryOut 77 = .ok (.iadd, 1) := by decide +kernel
theorem dX8_carryOut_78 : decode cX8_carryOut 78 = .ok (.putfield 100, 3) := by decide +kernel
theorem dX8_carryOut_81 : decode cX8_carryOut 81 = .ok (.aload_n 1, 1) := by decide +kernel
theorem dX8_carryOut_82 : decode cX8_carryOut 82 = .ok (.aload_n 3, 1) := by decide +kernel
theorem dX8_carryOut_83 : decode cX8_carryOut 83 = .ok (.getfield 86, 3) := by decide +kernel
theorem dX8_carryOut_86 : decode cX8_carryOut 86 = .ok (.aload_n 0, 1) := by decide +kernel
theorem dX8_carryOut_87 : decode cX8_carryOut 87 = .ok (.getfield 9, 3) := by decide +kernel
theorem dX8_carryOut_90 : decode cX8_carryOut 90 = .ok (.iload_n 2, 1) := by decide +kernel
theorem dX8_carryOut_91 : decode cX8_carryOut 91 = .ok (.iaload, 1) := by decide +kernel
theorem dX8_carryOut_92 : decode cX8_carryOut 92 = .ok (.aload_n 0, 1) := by decide +kernel
theorem dX8_carryOut_93 : decode cX8_carryOut 93 = .ok (.getfield 15, 3) := by decide +kernel
theorem dX8_carryOut_96 : decode cX8_carryOut 96 = .ok (.iload_n 2, 1) := by decide +kernel
theorem dX8_carryOut_97 : decode cX8_carryOut 97 = .ok (.iaload, 1) := by decide +kernel
theorem dX8_carryOut_98 : decode cX8_carryOut 98 = .ok (.iadd, 1) := by decide +kernel
theorem dX8_carryOut_99 : decode cX8_carryOut 99 = .ok (.invokevirtual 101, 3) := by decide +kernel
theorem dX8_carryOut_102 : decode cX8_carryOut 102 = .ok (.iinc 2 1, 3) := by decide +kernel
theorem dX8_carryOut_105 : decode cX8_carryOut 105 = .ok (.goto (-103), 3) := by decide +kernel
theorem dX8_carryOut_108 : decode cX8_carryOut 108 = .ok (.return_, 1) := by decide +kernel
theorem dX8_clear_0 : decode cX8_clear 0 = .ok (.iconst 0, 1) := by decide +kernel
theorem dX8_clear_1 : decode cX8_clear 1 = .ok (.istore_n 1, 1) := by decide +kernel
theorem dX8_clear_2 : decode cX8_clear 2 = .ok (.iload_n 1, 1) := by decide +kernel
theorem dX8_clear_3 : decode cX8_clear 3 = .ok (.aload_n 0, 1) := by decide +kernel
theorem dX8_clear_4 : decode cX8_clear 4 = .ok (.getfield 18, 3) := by decide +kernel
theorem dX8_clear_7 : decode cX8_clear 7 = .ok (.arraylength, 1) := by decide +kernel
theorem dX8_clear_8 : decode cX8_clear 8 = .ok (.if_icmp .ge 30, 3) := by decide +kernel
theorem dX8_clear_11 : decode cX8_clear 11 = .ok (.aload_n 0, 1) := by decide +kernel
theorem dX8_clear_12 : decode cX8_clear 12 = .ok (.getfield 9, 3) := by decide +kernel
theorem dX8_clear_15 : decode cX8_clear 15 = .ok (.iload_n 1, 1) := by decide +kernel
theorem dX8_clear_16 : decode cX8_clear 16 = .ok (.iconst 0, 1) := by decide +kernel
theorem dX8_clear_17 : decode cX8_clear 17 = .ok (.iastore, 1) := by decide +kernel
theorem dX8_clear_18 : decode cX8_clear 18 = .ok (.aload_n 0, 1) := by decide +kernel
theorem dX8_clear_19 : decode cX8_clear 19 = .ok (.getfield 15, 3) := by decide +kernel
theorem dX8_clear_22 : decode cX8_clear 22 = .ok (.iload_n 1, 1) := by decide +kernel
theorem dX8_clear_23 : decode cX8_clear 23 = .ok (.iconst 0, 1) := by decide +kernel
theorem dX8_clear_24 : decode cX8_clear 24 = .ok (.iastore, 1) := by decide +kernel
theorem dX8_clear_25 : decode cX8_clear 25 = .ok (.aload_n 0, 1) := by decide +kernel
theorem dX8_clear_26 : decode cX8_clear 26 = .ok (.getfield 18, 3) := by decide +kernel
theorem dX8_clear_29 : decode cX8_clear 29 = .ok (.iload_n 1, 1) := by decide +kernel
theorem dX8_clear_30 : decode cX8_clear 30 = .ok (.iconst 0, 1) := by decide +kernel
theorem dX8_clear_31 : decode cX8_clear 31 = .ok (.iastore, 1) := by decide +kernel
theorem dX8_clear_32 : decode cX8_clear 32 = .ok (.iinc 1 1, 3) := by decide +kernel
theorem dX8_clear_35 : decode cX8_clear 35 = .ok (.goto (-33), 3) := by decide +kernel
theorem dX8_clear_38 : decode cX8_clear 38 = .ok (.return_, 1) := by decide +kernel
theorem dX8_shareByClass_0 : decode cX8_shareByClass 0 = .ok (.aload_n 0, 1) := by decide +kernel
theorem dX8_shareByClass_1 : decode cX8_shareByClass 1 = .ok (.aload_n 1, 1) := by decide +kernel
theorem dX8_shareByClass_2 : decode cX8_shareByClass 2 = .ok (.iload_n 2, 1) := by decide +kernel
theorem dX8_shareByClass_3 : decode cX8_shareByClass 3 = .ok (.iconst 1, 1) := by decide +kernel
theorem dX8_shareByClass_4 : decode cX8_shareByClass 4 = .ok (.iconst 0, 1) := by decide +kernel
theorem dX8_shareByClass_5 : decode cX8_shareByClass 5 = .ok (.invokevirtual 24, 3) := by decide +kernel
theorem dX8_shareByClass_8 : decode cX8_shareByClass 8 = .ok (.aload_n 0, 1) := by decide +kernel
theorem dX8_shareByClass_9 : decode cX8_shareByClass 9 = .ok (.iload_n 3, 1) := by decide +kernel
theorem dX8_shareByClass_10 : decode cX8_shareByClass 10 = .ok (.aload_n 0, 1) := by decide +kernel
theorem dX8_shareByClass_11 : decode cX8_shareByClass 11 = .ok (.getfield 15, 3) := by decide +kernel
theorem dX8_shareByClass_14 : decode cX8_shareByClass 14 = .ok (.invokevirtual 36, 3) := by decide +kernel
theorem dX8_shareByClass_17 : decode cX8_shareByClass 17 = .ok (.aload_n 0, 1) := by decide +kernel
theorem dX8_shareByClass_18 : decode cX8_shareByClass 18 = .ok (.aload_n 1, 1) := by decide +kernel
theorem dX8_shareByClass_19 : decode cX8_shareByClass 19 = .ok (.iload_n 2, 1) := by decide +kernel
theorem dX8_shareByClass_20 : decode cX8_shareByClass 20 = .ok (.iconst 0, 1) := by decide +kernel
theorem dX8_shareByClass_21 : decode cX8_shareByClass 21 = .ok (.iconst 1, 1) := by decide +kernel
theorem dX8_shareByClass_22 : decode cX8_shareByClass 22 = .ok (.invokevirtual 24, 3) := by decide +kernel
theorem dX8_shareByClass_25 : decode cX8_shareByClass 25 = .ok (.aload_n 0, 1) := by decide +kernel
theorem dX8_shareByClass_26 : decode cX8_shareByClass 26 = .ok (.iload 4, 2) := by decide +kernel
theorem dX8_shareByClass_28 : decode cX8_shareByClass 28 = .ok (.aload_n 0, 1) := by decide +kernel
theorem dX8_shareByClass_29 : decode cX8_shareByClass 29 = .ok (.getfield 15, 3) := by decide +kernel
theorem dX8_shareByClass_32 : decode cX8_shareByClass 32 = .ok (.invokevirtual 36, 3) := by decide +kernel
theorem dX8_shareByClass_35 : decode cX8_shareByClass 35 = .ok (.return_, 1) := by decide +kernel
theorem dX8_weighPrincipals_0 : decode cX8_weighPrincipals 0 = .ok (.iconst 0, 1) := by decide +kernel
theorem dX8_weighPrincipals_1 : decode cX8_weighPrincipals 1 = .ok (.istore 5, 2) := by decide +kernel
theorem dX8_weighPrincipals_3 : decode cX8_weighPrincipals 3 = .ok (.iload 5, 2) := by decide +kernel
theorem dX8_weighPrincipals_5 : decode cX8_weighPrincipals 5 = .ok (.aload_n 1, 1) := by decide +kernel
theorem dX8_weighPrincipals_6 : decode cX8_weighPrincipals 6 = .ok (.getfield 79, 3) := by decide +kernel
theorem dX8_weighPrincipals_9 : decode cX8_weighPrincipals 9 = .ok (.if_icmp .ge 75, 3) := by decide +kernel
theorem dX8_weighPrincipals_12 : decode cX8_weighPrincipals 12 = .ok (.aload_n 1, 1) := by decide +kernel
theorem dX8_weighPrincipals_13 : decode cX8_weighPrincipals 13 = .ok (.getfield 82, 3) := by decide +kernel
theorem dX8_weighPrincipals_16 : decode cX8_weighPrincipals 16 = .ok (.iload 5, 2) := by decide +kernel
theorem dX8_weighPrincipals_18 : decode cX8_weighPrincipals 18 = .ok (.aaload, 1) := by decide +kernel
theorem dX8_weighPrincipals_19 : decode cX8_weighPrincipals 19 = .ok (.astore 6, 2) := by decide +kernel
theorem dX8_weighPrincipals_21 : decode cX8_weighPrincipals 21 = .ok (.aload 6, 2) := by decide +kernel
theorem dX8_weighPrincipals_23 : decode cX8_weighPrincipals 23 = .ok (.getfield 105, 3) := by decide +kernel
theorem dX8_weighPrincipals_26 : decode cX8_weighPrincipals 26 = .ok (.iload_n 2, 1) := by decide +kernel
theorem dX8_weighPrincipals_27 : decode cX8_weighPrincipals 27 = .ok (.if_icmp .ne 27, 3) := by decide +kernel
theorem dX8_weighPrincipals_30 : decode cX8_weighPrincipals 30 = .ok (.aload 6, 2) := by decide +kernel
theorem dX8_weighPrincipals_32 : decode cX8_weighPrincipals 32 = .ok (.getfield 108, 3) := by decide +kernel
theorem dX8_weighPrincipals_35 : decode cX8_weighPrincipals 35 = .ok (.ifCond .ne 10, 3) := by decide +kernel
theorem dX8_weighPrincipals_38 : decode cX8_weighPrincipals 38 = .ok (.iload_n 3, 1) := by decide +kernel
theorem dX8_weighPrincipals_39 : decode cX8_weighPrincipals 39 = .ok (.ifCond .eq 15, 3) := by decide +kernel
theorem dX8_weighPrincipals_42 : decode cX8_weighPrincipals 42 = .ok (.goto 8, 3) := by decide +kernel
theorem dX8_weighPrincipals_45 : decode cX8_weighPrincipals 45 = .ok (.iload 4, 2) := by decide +kernel
theorem dX8_weighPrincipals_47 : decode cX8_weighPrincipals 47 = .ok (.ifCond .eq 7, 3) := by decide +kernel
theorem dX8_weighPrincipals_50 : decode cX8_weighPrincipals 50 = .ok (.iconst 1, 1) := by decide +kernel
theorem dX8_weighPrincipals_51 : decode cX8_weighPrincipals 51 = .ok (.goto 4, 3) := by decide +kernel
theorem dX8_weighPrincipals_54 : decode cX8_weighPrincipals 54 = .ok (.iconst 0, 1) := by decide +kernel
theorem dX8_weighPrincipals_55 : decode cX8_weighPrincipals 55 = .ok (.istore 7, 2) := by decide +kernel
theorem dX8_weighPrincipals_57 : decode cX8_weighPrincipals 57 = .ok (.aload_n 0, 1) := by decide +kernel
theorem dX8_weighPrincipals_58 : decode cX8_weighPrincipals 58 = .ok (.getfield 18, 3) := by decide +kernel
theorem dX8_weighPrincipals_61 : decode cX8_weighPrincipals 61 = .ok (.iload 5, 2) := by decide +kernel
theorem dX8_weighPrincipals_63 : decode cX8_weighPrincipals 63 = .ok (.iload 7, 2) := by decide +kernel
theorem dX8_weighPrincipals_65 : decode cX8_weighPrincipals 65 = .ok (.ifCond .eq 11, 3) := by decide +kernel
theorem dX8_weighPrincipals_68 : decode cX8_weighPrincipals 68 = .ok (.aload 6, 2) := by decide +kernel
theorem dX8_weighPrincipals_70 : decode cX8_weighPrincipals 70 = .ok (.getfield 94, 3) := by decide +kernel
theorem dX8_weighPrincipals_73 : decode cX8_weighPrincipals 73 = .ok (.goto 4, 3) := by decide +kernel
theorem dX8_weighPrincipals_76 : decode cX8_weighPrincipals 76 = .ok (.iconst 0, 1) := by decide +kernel
theorem dX8_weighPrincipals_77 : decode cX8_weighPrincipals 77 = .ok (.iastore, 1) := by decide +kernel
theorem dX8_weighPrincipals_78 : decode cX8_weighPrincipals 78 = .ok (.iinc 5 1, 3) := by decide +kernel
theorem dX8_weighPrincipals_81 : decode cX8_weighPrincipals 81 = .ok (.goto (-78), 3) := by decide +kernel
theorem dX8_weighPrincipals_84 : decode cX8_weighPrincipals 84 = .ok (.return_, 1) := by decide +kernel
theorem dX8_shareOut_0 : decode cX8_shareOut 0 = .ok (.lconst 0, 1) := by decide +kernel
theorem dX8_shareOut_1 : decode cX8_shareOut 1 = .ok (.lstore_n 3, 1) := by decide +kernel
theorem dX8_shareOut_2 : decode cX8_shareOut 2 = .ok (.iconst 0, 1) := by decide +kernel
theorem dX8_shareOut_3 : decode cX8_shareOut 3 = .ok (.istore 5, 2) := by decide +kernel
theorem dX8_shareOut_5 : decode cX8_shareOut 5 = .ok (.iload 5, 2) := by decide +kernel
theorem dX8_shareOut_7 : decode cX8_shareOut 7 = .ok (.aload_n 0, 1) := by decide +kernel
theorem dX8_shareOut_8 : decode cX8_shareOut 8 = .ok (.getfield 18, 3) := by decide +kernel
theorem dX8_shareOut_11 : decode cX8_shareOut 11 = .ok (.arraylength, 1) := by decide +kernel
theorem dX8_shareOut_12 : decode cX8_shareOut 12 = .ok (.if_icmp .ge 20, 3) := by decide +kernel
theorem dX8_shareOut_15 : decode cX8_shareOut 15 = .ok (.lload_n 3, 1) := by decide +kernel
theorem dX8_shareOut_16 : decode cX8_shareOut 16 = .ok (.aload_n 0, 1) := by decide +kernel
theorem dX8_shareOut_17 : decode cX8_shareOut 17 = .ok (.getfield 18, 3) := by decide +kernel
theorem dX8_shareOut_20 : decode cX8_shareOut 20 = .ok (.iload 5, 2) := by decide +kernel
theorem dX8_shareOut_22 : decode cX8_shareOut 22 = .ok (.iaload, 1) := by decide +kernel
theorem dX8_shareOut_23 : decode cX8_shareOut 23 = .ok (.i2l, 1) := by decide +kernel
theorem dX8_shareOut_24 : decode cX8_shareOut 24 = .ok (.ladd, 1) := by decide +kernel
theorem dX8_shareOut_25 : decode cX8_shareOut 25 = .ok (.lstore_n 3, 1) := by decide +kernel
theorem dX8_shareOut_26 : decode cX8_shareOut 26 = .ok (.iinc 5 1, 3) := by decide +kernel
theorem dX8_shareOut_29 : decode cX8_shareOut 29 = .ok (.goto (-24), 3) := by decide +kernel
theorem dX8_shareOut_32 : decode cX8_shareOut 32 = .ok (.lload_n 3, 1) := by decide +kernel
theorem dX8_shareOut_33 : decode cX8_shareOut 33 = .ok (.lconst 0, 1) := by decide +kernel
theorem dX8_shareOut_34 : decode cX8_shareOut 34 = .ok (.lcmp, 1) := by decide +kernel
theorem dX8_shareOut_35 : decode cX8_shareOut 35 = .ok (.ifCond .gt 4, 3) := by decide +kernel
theorem dX8_shareOut_38 : decode cX8_shareOut 38 = .ok (.return_, 1) := by decide +kernel
theorem dX8_shareOut_39 : decode cX8_shareOut 39 = .ok (.iload_n 1, 1) := by decide +kernel
theorem dX8_shareOut_40 : decode cX8_shareOut 40 = .ok (.istore 5, 2) := by decide +kernel
theorem dX8_shareOut_42 : decode cX8_shareOut 42 = .ok (.iconst 0, 1) := by decide +kernel
theorem dX8_shareOut_43 : decode cX8_shareOut 43 = .ok (.istore 6, 2) := by decide +kernel
theorem dX8_shareOut_45 : decode cX8_shareOut 45 = .ok (.iload 6, 2) := by decide +kernel
theorem dX8_shareOut_47 : decode cX8_shareOut 47 = .ok (.aload_n 0, 1) := by decide +kernel
theorem dX8_shareOut_48 : decode cX8_shareOut 48 = .ok (.getfield 18, 3) := by decide +kernel
theorem dX8_shareOut_51 : decode cX8_shareOut 51 = .ok (.arraylength, 1) := by decide +kernel
theorem dX8_shareOut_52 : decode cX8_shareOut 52 = .ok (.if_icmp .ge 41, 3) := by decide +kernel
theorem dX8_shareOut_55 : decode cX8_shareOut 55 = .ok (.iload_n 1, 1) := by decide +kernel
theorem dX8_shareOut_56 : decode cX8_shareOut 56 = .ok (.i2l, 1) := by decide +kernel
theorem dX8_shareOut_57 : decode cX8_shareOut 57 = .ok (.aload_n 0, 1) := by decide +kernel
theorem dX8_shareOut_58 : decode cX8_shareOut 58 = .ok (.getfield 18, 3) := by decide +kernel
theorem dX8_shareOut_61 : decode cX8_shareOut 61 = .ok (.iload 6, 2) := by decide +kernel
theorem dX8_shareOut_63 : decode cX8_shareOut 63 = .ok (.iaload, 1) := by decide +kernel
theorem dX8_shareOut_64 : decode cX8_shareOut 64 = .ok (.i2l, 1) := by decide +kernel
theorem dX8_shareOut_65 : decode cX8_shareOut 65 = .ok (.lmul, 1) := by decide +kernel
theorem dX8_shareOut_66 : decode cX8_shareOut 66 = .ok (.lload_n 3, 1) := by decide +kernel
theorem dX8_shareOut_67 : decode cX8_shareOut 67 = .ok (.ldiv, 1) := by decide +kernel
theorem dX8_shareOut_68 : decode cX8_shareOut 68 = .ok (.l2i, 1) := by decide +kernel
theorem dX8_shareOut_69 : decode cX8_shareOut 69 = .ok (.istore 7, 2) := by decide +kernel
theorem dX8_shareOut_71 : decode cX8_shareOut 71 = .ok (.aload_n 2, 1) := by decide +kernel
theorem dX8_shareOut_72 : decode cX8_shareOut 72 = .ok (.iload 6, 2) := by decide +kernel
theorem dX8_shareOut_74 : decode cX8_shareOut 74 = .ok (.dup2, 1) := by decide +kernel
theorem dX8_shareOut_75 : decode cX8_shareOut 75 = .ok (.iaload, 1) := by decide +kernel
theorem dX8_shareOut_76 : decode cX8_shareOut 76 = .ok (.iload 7, 2) := by decide +kernel
theorem dX8_shareOut_78 : decode cX8_shareOut 78 = .ok (.iadd, 1) := by decide +kernel
theorem dX8_shareOut_79 : decode cX8_shareOut 79 = .ok (.iastore, 1) := by decide +kernel
theorem dX8_shareOut_80 : decode cX8_shareOut 80 = .ok (.iload 5, 2) := by decide +kernel
theorem dX8_shareOut_82 : decode cX8_shareOut 82 = .ok (.iload 7, 2) := by decide +kernel
theorem dX8_shareOut_84 : decode cX8_shareOut 84 = .ok (.isub, 1) := by decide +kernel
theorem dX8_shareOut_85 : decode cX8_shareOut 85 = .ok (.istore 5, 2) := by decide +kernel
theorem dX8_shareOut_87 : decode cX8_shareOut 87 = .ok (.iinc 6 1, 3) := by decide +kernel
theorem dX8_shareOut_90 : decode cX8_shareOut 90 = .ok (.goto (-45), 3) := by decide +kernel
theorem dX8_shareOut_93 : decode cX8_shareOut 93 = .ok (.iconst 0, 1) := by decide +kernel
theorem dX8_shareOut_94 : decode cX8_shareOut 94 = .ok (.istore 6, 2) := by decide +kernel
theorem dX8_shareOut_96 : decode cX8_shareOut 96 = .ok (.iload 6, 2) := by decide +kernel
theorem dX8_shareOut_98 : decode cX8_shareOut 98 = .ok (.aload_n 0, 1) := by decide +kernel
theorem dX8_shareOut_99 : decode cX8_shareOut 99 = .ok (.getfield 18, 3) := by decide +kernel
theorem dX8_shareOut_102 : decode cX8_shareOut 102 = .ok (.arraylength, 1) := by decide +kernel
theorem dX8_shareOut_103 : decode cX8_shareOut 103 = .ok (.if_icmp .ge 35, 3) := by decide +kernel
theorem dX8_shareOut_106 : decode cX8_shareOut 106 = .ok (.iload 5, 2) := by decide +kernel
theorem dX8_shareOut_108 : decode cX8_shareOut 108 = .ok (.ifCond .le 30, 3) := by decide +kernel
theorem dX8_shareOut_111 : decode cX8_shareOut 111 = .ok (.aload_n 0, 1) := by decide +kernel
theorem dX8_shareOut_112 : decode cX8_shareOut 112 = .ok (.getfield 18, 3) := by decide +kernel
theorem dX8_shareOut_115 : decode cX8_shareOut 115 = .ok (.iload 6, 2) := by decide +kernel
theorem dX8_shareOut_117 : decode cX8_shareOut 117 = .ok (.iaload, 1) := by decide +kernel
theorem dX8_shareOut_118 : decode cX8_shareOut 118 = .ok (.ifCond .eq 14, 3) := by decide +kernel
theorem dX8_shareOut_121 : decode cX8_shareOut 121 = .ok (.aload_n 2, 1) := by decide +kernel
theorem dX8_shareOut_122 : decode cX8_shareOut 122 = .ok (.iload 6, 2) := by decide +kernel
theorem dX8_shareOut_124 : decode cX8_shareOut 124 = .ok (.dup2, 1) := by decide +kernel
theorem dX8_shareOut_125 : decode cX8_shareOut 125 = .ok (.iaload, 1) := by decide +kernel
theorem dX8_shareOut_126 : decode cX8_shareOut 126 = .ok (.iconst 1, 1) := by decide +kernel
theorem dX8_shareOut_127 : decode cX8_shareOut 127 = .ok (.iadd, 1) := by decide +kernel
theorem dX8_shareOut_128 : decode cX8_shareOut 128 = .ok (.iastore, 1) := by decide +kernel
theorem dX8_shareOut_129 : decode cX8_shareOut 129 = .ok (.iinc 5 (-1), 3) := by decide +kernel
theorem dX8_shareOut_132 : decode cX8_shareOut 132 = .ok (.iinc 6 1, 3) := by decide +kernel
theorem dX8_shareOut_135 : decode cX8_shareOut 135 = .ok (.goto (-39), 3) := by decide +kernel
theorem dX8_shareOut_138 : decode cX8_shareOut 138 = .ok (.return_, 1) := by decide +kernel
end
section
theorem dX9_init_0 : decode cX9_init 0 = .ok (.aload_n 0, 1) := by decide +kernel
theorem dX9_init_1 : decode cX9_init 1 = .ok (.invokespecial 1, 3) := by decide +kernel
theorem dX9_init_4 : decode cX9_init 4 = .ok (.aload_n 0, 1) := by decide +kernel
theorem dX9_init_5 : decode cX9_init 5 = .ok (.new 7, 3) := by decide +kernel
theorem dX9_init_8 : decode cX9_init 8 = .ok (.dup, 1) := by decide +kernel
theorem dX9_init_9 : decode cX9_init 9 = .ok (.invokespecial 9, 3) := by decide +kernel
theorem dX9_init_12 : decode cX9_init 12 = .ok (.putfield 10, 3) := by decide +kernel
theorem dX9_init_15 : decode cX9_init 15 = .ok (.aload_n 0, 1) := by decide +kernel
theorem dX9_init_16 : decode cX9_init 16 = .ok (.new 7, 3) := by decide +kernel
theorem dX9_init_19 : decode cX9_init 19 = .ok (.dup, 1) := by decide +kernel
theorem dX9_init_20 : decode cX9_init 20 = .ok (.invokespecial 9, 3) := by decide +kernel
theorem dX9_init_23 : decode cX9_init 23 = .ok (.putfield 16, 3) := by decide +kernel
theorem dX9_init_26 : decode cX9_init 26 = .ok (.aload_n 0, 1) := by decide +kernel
theorem dX9_init_27 : decode cX9_init 27 = .ok (.new 7, 3) := by decide +kernel
theorem dX9_init_30 : decode cX9_init 30 = .ok (.dup, 1) := by decide +kernel
theorem dX9_init_31 : decode cX9_init 31 = .ok (.invokespecial 9, 3) := by decide +kernel
theorem dX9_init_34 : decode cX9_init 34 = .ok (.putfield 19, 3) := by decide +kernel
theorem dX9_init_37 : decode cX9_init 37 = .ok (.aload_n 0, 1) := by decide +kernel
theorem dX9_init_38 : decode cX9_init 38 = .ok (.iconst 0, 1) := by decide +kernel
theorem dX9_init_39 : decode cX9_init 39 = .ok (.putfield 22, 3) := by decide +kernel
theorem dX9_init_42 : decode cX9_init 42 = .ok (.aload_n 0, 1) := by decide +kernel
theorem dX9_init_43 : decode cX9_init 43 = .ok (.new 26, 3) := by decide +kernel
theorem dX9_init_46 : decode cX9_init 46 = .ok (.dup, 1) := by decide +kernel
theorem dX9_init_47 : decode cX9_init 47 = .ok (.invokespecial 28, 3) := by decide +kernel
theorem dX9_init_50 : decode cX9_init 50 = .ok (.putfield 29, 3) := by decide +kernel
theorem dX9_init_53 : decode cX9_init 53 = .ok (.aload_n 0, 1) := by decide +kernel
theorem dX9_init_54 : decode cX9_init 54 = .ok (.new 33, 3) := by decide +kernel
theorem dX9_init_57 : decode cX9_init 57 = .ok (.dup, 1) := by decide +kernel
theorem dX9_init_58 : decode cX9_init 58 = .ok (.invokespecial 35, 3) := by decide +kernel
theorem dX9_init_61 : decode cX9_init 61 = .ok (.putfield 36, 3) := by decide +kernel
theorem dX9_init_64 : decode cX9_init 64 = .ok (.aload_n 0, 1) := by decide +kernel
theorem dX9_init_65 : decode cX9_init 65 = .ok (.new 40, 3) := by decide +kernel
theorem dX9_init_68 : decode cX9_init 68 = .ok (.dup, 1) := by decide +kernel
theorem dX9_init_69 : decode cX9_init 69 = .ok (.invokespecial 42, 3) := by decide +kernel
theorem dX9_init_72 : decode cX9_init 72 = .ok (.putfield 43, 3) := by decide +kernel
theorem dX9_init_75 : decode cX9_init 75 = .ok (.aload_n 0, 1) := by decide +kernel
theorem dX9_init_76 : decode cX9_init 76 = .ok (.new 47, 3) := by decide +kernel
theorem dX9_init_79 : decode cX9_init 79 = .ok (.dup, 1) := by decide +kernel
theorem dX9_init_80 : decode cX9_init 80 = .ok (.invokespecial 49, 3) := by decide +kernel
theorem dX9_init_83 : decode cX9_init 83 = .ok (.putfield 50, 3) := by decide +kernel
theorem dX9_init_86 : decode cX9_init 86 = .ok (.return_, 1) := by decide +kernel
theorem dX9_addInvestor_0 : decode cX9_addInvestor 0 = .ok (.iload_n 1, 1) := by decide +kernel
theorem dX9_addInvestor_1 : decode cX9_addInvestor 1 = .ok (.ifCond .ge 6, 3) := by decide +kernel
theorem dX9_addInvestor_4 : decode cX9_addInvestor 4 = .ok (.bipush (-2), 2) := by decide +kernel
theorem dX9_addInvestor_6 : decode cX9_addInvestor 6 = .ok (.ireturn, 1) := by decide +kernel
theorem dX9_addInvestor_7 : decode cX9_addInvestor 7 = .ok (.aload_n 0, 1) := by decide +kernel
theorem dX9_addInvestor_8 : decode cX9_addInvestor 8 = .ok (.getfield 10, 3) := by decide +kernel
theorem dX9_addInvestor_11 : decode cX9_addInvestor 11 = .ok (.getfield 54, 3) := by decide +kernel
theorem dX9_addInvestor_14 : decode cX9_addInvestor 14 = .ok (.bipush 8, 2) := by decide +kernel
theorem dX9_addInvestor_16 : decode cX9_addInvestor 16 = .ok (.if_icmp .lt 6, 3) := by decide +kernel
theorem dX9_addInvestor_19 : decode cX9_addInvestor 19 = .ok (.bipush (-3), 2) := by decide +kernel
theorem dX9_addInvestor_21 : decode cX9_addInvestor 21 = .ok (.ireturn, 1) := by decide +kernel
theorem dX9_addInvestor_22 : decode cX9_addInvestor 22 = .ok (.aload_n 0, 1) := by decide +kernel
theorem dX9_addInvestor_23 : decode cX9_addInvestor 23 = .ok (.getfield 29, 3) := by decide +kernel
theorem dX9_addInvestor_26 : decode cX9_addInvestor 26 = .ok (.aload_n 0, 1) := by decide +kernel
theorem dX9_addInvestor_27 : decode cX9_addInvestor 27 = .ok (.getfield 10, 3) := by decide +kernel
theorem dX9_addInvestor_30 : decode cX9_addInvestor 30 = .ok (.invokevirtual 58, 3) := by decide +kernel
theorem dX9_addInvestor_33 : decode cX9_addInvestor 33 = .ok (.aload_n 0, 1) := by decide +kernel
theorem dX9_addInvestor_34 : decode cX9_addInvestor 34 = .ok (.getfield 10, 3) := by decide +kernel
theorem dX9_addInvestor_37 : decode cX9_addInvestor 37 = .ok (.getfield 54, 3) := by decide +kernel
theorem dX9_addInvestor_40 : decode cX9_addInvestor 40 = .ok (.istore_n 2, 1) := by decide +kernel
theorem dX9_addInvestor_41 : decode cX9_addInvestor 41 = .ok (.aload_n 0, 1) := by decide +kernel
theorem dX9_addInvestor_42 : decode cX9_addInvestor 42 = .ok (.getfield 10, 3) := by decide +kernel
theorem dX9_addInvestor_45 : decode cX9_addInvestor 45 = .ok (.getfield 62, 3) := by decide +kernel
theorem dX9_addInvestor_48 : decode cX9_addInvestor 48 = .ok (.iload_n 2, 1) := by decide +kernel
theorem dX9_addInvestor_49 : decode cX9_addInvestor 49 = .ok (.aaload, 1) := by decide +kernel
theorem dX9_addInvestor_50 : decode cX9_addInvestor 50 = .ok (.iload_n 1, 1) := by decide +kernel
theorem dX9_addInvestor_51 : decode cX9_addInvestor 51 = .ok (.invokevirtual 66, 3) := by decide +kernel
theorem dX9_addInvestor_54 : decode cX9_addInvestor 54 = .ok (.aload_n 0, 1) := by decide +kernel
theorem dX9_addInvestor_55 : decode cX9_addInvestor 55 = .ok (.getfield 10, 3) := by decide +kernel
theorem dX9_addInvestor_58 : decode cX9_addInvestor 58 = .ok (.dup, 1) := by decide +kernel
theorem dX9_addInvestor_59 : decode cX9_addInvestor 59 = .ok (.getfield 54, 3) := by decide +kernel
theorem dX9_addInvestor_62 : decode cX9_addInvestor 62 = .ok (.iconst 1, 1) := by decide +kernel
theorem dX9_addInvestor_63 : decode cX9_addInvestor 63 = .ok (.iadd, 1) := by decide +kernel
theorem dX9_addInvestor_64 : decode cX9_addInvestor 64 = .ok (.putfield 54, 3) := by decide +kernel
theorem dX9_addInvestor_67 : decode cX9_addInvestor 67 = .ok (.iload_n 2, 1) := by decide +kernel
theorem dX9_addInvestor_68 : decode cX9_addInvestor 68 = .ok (.ireturn, 1) := by decide +kernel
theorem dX9_deposit_0 : decode cX9_deposit 0 = .ok (.aload_n 0, 1) := by decide +kernel
theorem dX9_deposit_1 : decode cX9_deposit 1 = .ok (.getfield 10, 3) := by decide +kernel
theorem dX9_deposit_4 : decode cX9_deposit 4 = .ok (.iload_n 1, 1) := by decide +kernel
theorem dX9_deposit_5 : decode cX9_deposit 5 = .ok (.invokevirtual 72, 3) := by decide +kernel
theorem dX9_deposit_8 : decode cX9_deposit 8 = .ok (.ifCond .ne 5, 3) := by decide +kernel
theorem dX9_deposit_11 : decode cX9_deposit 11 = .ok (.iconst (-1), 1) := by decide +kernel
theorem dX9_deposit_12 : decode cX9_deposit 12 = .ok (.ireturn, 1) := by decide +kernel
theorem dX9_deposit_13 : decode cX9_deposit 13 = .ok (.iload_n 2, 1) := by decide +kernel
theorem dX9_deposit_14 : decode cX9_deposit 14 = .ok (.iconst 1, 1) := by decide +kernel
theorem dX9_deposit_15 : decode cX9_deposit 15 = .ok (.if_icmp .ge 6, 3) := by decide +kernel
theorem dX9_deposit_18 : decode cX9_deposit 18 = .ok (.bipush (-2), 2) := by decide +kernel
theorem dX9_deposit_20 : decode cX9_deposit 20 = .ok (.ireturn, 1) := by decide +kernel
theorem dX9_deposit_21 : decode cX9_deposit 21 = .ok (.iload_n 2, 1) := by decide +kernel
theorem dX9_deposit_22 : decode cX9_deposit 22 = .ok (.ldc 76, 2) := by decide +kernel
theorem dX9_deposit_24 : decode cX9_deposit 24 = .ok (.aload_n 0, 1) := by decide +kernel
theorem dX9_deposit_25 : decode cX9_deposit 25 = .ok (.getfield 10, 3) := by decide +kernel
theorem dX9_deposit_28 : decode cX9_deposit 28 = .ok (.getfield 62, 3) := by decide +kernel
theorem dX9_deposit_31 : decode cX9_deposit 31 = .ok (.iload_n 1, 1) := by decide +kernel
theorem dX9_deposit_32 : decode cX9_deposit 32 = .ok (.aaload, 1) := by decide +kernel
theorem dX9_deposit_33 : decode cX9_deposit 33 = .ok (.getfield 77, 3) := by decide +kernel
theorem dX9_deposit_36 : decode cX9_deposit 36 = .ok (.isub, 1) := by decide +kernel
theorem dX9_deposit_37 : decode cX9_deposit 37 = .ok (.if_icmp .le 6, 3) := by decide +kernel
theorem dX9_deposit_40 : decode cX9_deposit 40 = .ok (.bipush (-3), 2) := by decide +kernel
theorem dX9_deposit_42 : decode cX9_deposit 42 = .ok (.ireturn, 1) := by decide +kernel
theorem dX9_deposit_43 : decode cX9_deposit 43 = .ok (.aload_n 0, 1) := by decide +kernel
theorem dX9_deposit_44 : decode cX9_deposit 44 = .ok (.getfield 29, 3) := by decide +kernel
theorem dX9_deposit_47 : decode cX9_deposit 47 = .ok (.aload_n 0, 1) := by decide +kernel
theorem dX9_deposit_48 : decode cX9_deposit 48 = .ok (.getfield 10, 3) := by decide +kernel
theorem dX9_deposit_51 : decode cX9_deposit 51 = .ok (.invokevirtual 58, 3) := by decide +kernel
theorem dX9_deposit_54 : decode cX9_deposit 54 = .ok (.aload_n 0, 1) := by decide +kernel
theorem dX9_deposit_55 : decode cX9_deposit 55 = .ok (.getfield 10, 3) := by decide +kernel
theorem dX9_deposit_58 : decode cX9_deposit 58 = .ok (.getfield 62, 3) := by decide +kernel
theorem dX9_deposit_61 : decode cX9_deposit 61 = .ok (.iload_n 1, 1) := by decide +kernel
theorem dX9_deposit_62 : decode cX9_deposit 62 = .ok (.aaload, 1) := by decide +kernel
theorem dX9_deposit_63 : decode cX9_deposit 63 = .ok (.dup, 1) := by decide +kernel
theorem dX9_deposit_64 : decode cX9_deposit 64 = .ok (.getfield 77, 3) := by decide +kernel
theorem dX9_deposit_67 : decode cX9_deposit 67 = .ok (.iload_n 2, 1) := by decide +kernel
theorem dX9_deposit_68 : decode cX9_deposit 68 = .ok (.iadd, 1) := by decide +kernel
theorem dX9_deposit_69 : decode cX9_deposit 69 = .ok (.putfield 77, 3) := by decide +kernel
theorem dX9_deposit_72 : decode cX9_deposit 72 = .ok (.aload_n 0, 1) := by decide +kernel
theorem dX9_deposit_73 : decode cX9_deposit 73 = .ok (.getfield 10, 3) := by decide +kernel
theorem dX9_deposit_76 : decode cX9_deposit 76 = .ok (.getfield 62, 3) := by decide +kernel
theorem dX9_deposit_79 : decode cX9_deposit 79 = .ok (.iload_n 1, 1) := by decide +kernel
theorem dX9_deposit_80 : decode cX9_deposit 80 = .ok (.aaload, 1) := by decide +kernel
theorem dX9_deposit_81 : decode cX9_deposit 81 = .ok (.getfield 77, 3) := by decide +kernel
theorem dX9_deposit_84 : decode cX9_deposit 84 = .ok (.ireturn, 1) := by decide +kernel
theorem dX9_setPoolShare_0 : decode cX9_setPoolShare 0 = .ok (.iload_n 1, 1) := by decide +kernel
theorem dX9_setPoolShare_1 : decode cX9_setPoolShare 1 = .ok (.ifCond .lt 9, 3) := by decide +kernel
theorem dX9_setPoolShare_4 : decode cX9_setPoolShare 4 = .ok (.iload_n 1, 1) := by decide +kernel
theorem dX9_setPoolShare_5 : decode cX9_setPoolShare 5 = .ok (.bipush 50, 2) := by decide +kernel
theorem dX9_setPoolShare_7 : decode cX9_setPoolShare 7 = .ok (.if_icmp .le 6, 3) := by decide +kernel
theorem dX9_setPoolShare_10 : decode cX9_setPoolShare 10 = .ok (.bipush (-2), 2) := by decide +kernel
theorem dX9_setPoolShare_12 : decode cX9_setPoolShare 12 = .ok (.ireturn, 1) := by decide +kernel
theorem dX9_setPoolShare_13 : decode cX9_setPoolShare 13 = .ok (.iload_n 1, 1) := by decide +kernel
theorem dX9_setPoolShare_14 : decode cX9_setPoolShare 14 = .ok (.aload_n 0, 1) := by decide +kernel
theorem dX9_setPoolShare_15 : decode cX9_setPoolShare 15 = .ok (.getfield 10, 3) := by decide +kernel
theorem dX9_setPoolShare_18 : decode cX9_setPoolShare 18 = .ok (.getfield 80, 3) := by decide +kernel
theorem dX9_setPoolShare_21 : decode cX9_setPoolShare 21 = .ok (.if_icmp .ne 6, 3) := by decide +kernel
theorem dX9_setPoolShare_24 : decode cX9_setPoolShare 24 = .ok (.bipush (-5), 2) := by decide +kernel
theorem dX9_setPoolShare_26 : decode cX9_setPoolShare 26 = .ok (.ireturn, 1) := by decide +kernel
theorem dX9_setPoolShare_27 : decode cX9_setPoolShare 27 = .ok (.aload_n 0, 1) := by decide +kernel
theorem dX9_setPoolShare_28 : decode cX9_setPoolShare 28 = .ok (.getfield 29, 3) := by decide +kernel
theorem dX9_setPoolShare_31 : decode cX9_setPoolShare 31 = .ok (.aload_n 0, 1) := by decide +kernel
theorem dX9_setPoolShare_32 : decode cX9_setPoolShare 32 = .ok (.getfield 10, 3) := by decide +kernel
theorem dX9_setPoolShare_35 : decode cX9_setPoolShare 35 = .ok (.invokevirtual 58, 3) := by decide +kernel
theorem dX9_setPoolShare_38 : decode cX9_setPoolShare 38 = .ok (.aload_n 0, 1) := by decide +kernel
theorem dX9_setPoolShare_39 : decode cX9_setPoolShare 39 = .ok (.getfield 10, 3) := by decide +kernel
theorem dX9_setPoolShare_42 : decode cX9_setPoolShare 42 = .ok (.getfield 80, 3) := by decide +kernel
theorem dX9_setPoolShare_45 : decode cX9_setPoolShare 45 = .ok (.istore_n 2, 1) := by decide +kernel
theorem dX9_setPoolShare_46 : decode cX9_setPoolShare 46 = .ok (.aload_n 0, 1) := by decide +kernel
theorem dX9_setPoolShare_47 : decode cX9_setPoolShare 47 = .ok (.getfield 10, 3) := by decide +kernel
theorem dX9_setPoolShare_50 : decode cX9_setPoolShare 50 = .ok (.iload_n 1, 1) := by decide +kernel
theorem dX9_setPoolShare_51 : decode cX9_setPoolShare 51 = .ok (.putfield 80, 3) := by decide +kernel
theorem dX9_setPoolShare_54 : decode cX9_setPoolShare 54 = .ok (.iload_n 2, 1) := by decide +kernel
theorem dX9_setPoolShare_55 : decode cX9_setPoolShare 55 = .ok (.ireturn, 1) := by decide +kernel
theorem dX9_openLoan_0 : decode cX9_openLoan 0 = .ok (.iload_n 1, 1) := by decide +kernel
theorem dX9_openLoan_1 : decode cX9_openLoan 1 = .ok (.bipush 100, 2) := by decide +kernel
theorem dX9_openLoan_3 : decode cX9_openLoan 3 = .ok (.if_icmp .lt 26, 3) := by decide +kernel
theorem dX9_openLoan_6 : decode cX9_openLoan 6 = .ok (.iload_n 1, 1) := by decide +kernel
theorem dX9_openLoan_7 : decode cX9_openLoan 7 = .ok (.ldc 83, 2) := by decide +kernel
theorem dX9_openLoan_9 : decode cX9_openLoan 9 = .ok (.if_icmp .gt 20, 3) := by decide +kernel
theorem dX9_openLoan_12 : decode cX9_openLoan 12 = .ok (.iload_n 2, 1) := by decide +kernel
theorem dX9_openLoan_13 : decode cX9_openLoan 13 = .ok (.ifCond .lt 16, 3) := by decide +kernel
theorem dX9_openLoan_16 : decode cX9_openLoan 16 = .ok (.iload_n 2, 1) := by decide +kernel
theorem dX9_openLoan_17 : decode cX9_openLoan 17 = .ok (.bipush 50, 2) := by decide +kernel
theorem dX9_openLoan_19 : decode cX9_openLoan 19 = .ok (.if_icmp .gt 10, 3) := by decide +kernel
theorem dX9_openLoan_22 : decode cX9_openLoan 22 = .ok (.iload_n 3, 1) := by decide +kernel
theorem dX9_openLoan_23 : decode cX9_openLoan 23 = .ok (.invokestatic 84, 3) := by decide +kernel
theorem dX9_openLoan_26 : decode cX9_openLoan 26 = .ok (.ifCond .ne 6, 3) := by decide +kernel
theorem dX9_openLoan_29 : decode cX9_openLoan 29 = .ok (.bipush (-2), 2) := by decide +kernel
theorem dX9_openLoan_31 : decode cX9_openLoan 31 = .ok (.ireturn, 1) := by decide +kernel
theorem dX9_openLoan_32 : decode cX9_openLoan 32 = .ok (.aload_n 0, 1) := by decide +kernel
theorem dX9_openLoan_33 : decode cX9_openLoan 33 = .ok (.getfield 10, 3) := by decide +kernel
theorem dX9_openLoan_36 : decode cX9_openLoan 36 = .ok (.getfield 87, 3) := by decide +kernel
theorem dX9_openLoan_39 : decode cX9_openLoan 39 = .ok (.bipush 10, 2) := by decide +kernel
theorem dX9_openLoan_41 : decode cX9_openLoan 41 = .ok (.if_icmp .lt 6, 3) := by decide +kernel
theorem dX9_openLoan_44 : decode cX9_openLoan 44 = .ok (.bipush (-3), 2) := by decide +kernel
theorem dX9_openLoan_46 : decode cX9_openLoan 46 = .ok (.ireturn, 1) := by decide +kernel
theorem dX9_openLoan_47 : decode cX9_openLoan 47 = .ok (.aload_n 0, 1) := by decide +kernel
theorem dX9_openLoan_48 : decode cX9_openLoan 48 = .ok (.getfield 29, 3) := by decide +kernel
theorem dX9_openLoan_51 : decode cX9_openLoan 51 = .ok (.aload_n 0, 1) := by decide +kernel
theorem dX9_openLoan_52 : decode cX9_openLoan 52 = .ok (.getfield 10, 3) := by decide +kernel
theorem dX9_openLoan_55 : decode cX9_openLoan 55 = .ok (.invokevirtual 58, 3) := by decide +kernel
theorem dX9_openLoan_58 : decode cX9_openLoan 58 = .ok (.aload_n 0, 1) := by decide +kernel
theorem dX9_openLoan_59 : decode cX9_openLoan 59 = .ok (.getfield 10, 3) := by decide +kernel
theorem dX9_openLoan_62 : decode cX9_openLoan 62 = .ok (.getfield 87, 3) := by decide +kernel
theorem dX9_openLoan_65 : decode cX9_openLoan 65 = .ok (.istore 4, 2) := by decide +kernel
theorem dX9_openLoan_67 : decode cX9_openLoan 67 = .ok (.aload_n 0, 1) := by decide +kernel
theorem dX9_openLoan_68 : decode cX9_openLoan 68 = .ok (.getfield 10, 3) := by decide +kernel
theorem dX9_openLoan_71 : decode cX9_openLoan 71 = .ok (.getfield 90, 3) := by decide +kernel
theorem dX9_openLoan_74 : decode cX9_openLoan 74 = .ok (.iload 4, 2) := by decide +kernel
theorem dX9_openLoan_76 : decode cX9_openLoan 76 = .ok (.aaload, 1) := by decide +kernel
theorem dX9_openLoan_77 : decode cX9_openLoan 77 = .ok (.iload_n 1, 1) := by decide +kernel
theorem dX9_openLoan_78 : decode cX9_openLoan 78 = .ok (.iload_n 2, 1) := by decide +kernel
theorem dX9_openLoan_79 : decode cX9_openLoan 79 = .ok (.iload_n 3, 1) := by decide +kernel
theorem dX9_openLoan_80 : decode cX9_openLoan 80 = .ok (.invokevirtual 94, 3) := by decide +kernel
theorem dX9_openLoan_83 : decode cX9_openLoan 83 = .ok (.aload_n 0, 1) := by decide +kernel
theorem dX9_openLoan_84 : decode cX9_openLoan 84 = .ok (.getfield 10, 3) := by decide +kernel
theorem dX9_openLoan_87 : decode cX9_openLoan 87 = .ok (.dup, 1) := by decide +kernel
theorem dX9_openLoan_88 : decode cX9_openLoan 88 = .ok (.getfield 87, 3) := by decide +kernel
theorem dX9_openLoan_91 : decode cX9_openLoan 91 = .ok (.iconst 1, 1) := by decide +kernel
theorem dX9_openLoan_92 : decode cX9_openLoan 92 = .ok (.iadd, 1) := by decide +kernel
theorem dX9_openLoan_93 : decode cX9_openLoan 93 = .ok (.putfield 87, 3) := by decide +kernel
theorem dX9_openLoan_96 : decode cX9_openLoan 96 = .ok (.iload 4, 2) := by decide +kernel
theorem dX9_openLoan_98 : decode cX9_openLoan 98 = .ok (.ireturn, 1) := by decide +kernel
theorem dX9_fund_0 : decode cX9_fund 0 = .ok (.aload_n 0, 1) := by decide +kernel
theorem dX9_fund_1 : decode cX9_fund 1 = .ok (.getfield 10, 3) := by decide +kernel
theorem dX9_fund_4 : decode cX9_fund 4 = .ok (.iload_n 1, 1) := by decide +kernel
theorem dX9_fund_5 : decode cX9_fund 5 = .ok (.iload_n 2, 1) := by decide +kernel
theorem dX9_fund_6 : decode cX9_fund 6 = .ok (.iload 4, 2) := by decide +kernel
theorem dX9_fund_8 : decode cX9_fund 8 = .ok (.invokevirtual 99, 3) := by decide +kernel
theorem dX9_fund_11 : decode cX9_fund 11 = .ok (.istore 5, 2) := by decide +kernel
theorem dX9_fund_13 : decode cX9_fund 13 = .ok (.iload 5, 2) := by decide +kernel
theorem dX9_fund_15 : decode cX9_fund 15 = .ok (.ifCond .eq 6, 3) := by decide +kernel
theorem dX9_fund_18 : decode cX9_fund 18 = .ok (.iload 5, 2) := by decide +kernel
theorem dX9_fund_20 : decode cX9_fund 20 = .ok (.ireturn, 1) := by decide +kernel
theorem dX9_fund_21 : decode cX9_fund 21 = .ok (.aload_n 0, 1) := by decide +kernel
theorem dX9_fund_22 : decode cX9_fund 22 = .ok (.getfield 29, 3) := by decide +kernel
theorem dX9_fund_25 : decode cX9_fund 25 = .ok (.aload_n 0, 1) := by decide +kernel
theorem dX9_fund_26 : decode cX9_fund 26 = .ok (.getfield 10, 3) := by decide +kernel
theorem dX9_fund_29 : decode cX9_fund 29 = .ok (.invokevirtual 58, 3) := by decide +kernel
theorem dX9_fund_32 : decode cX9_fund 32 = .ok (.aload_n 0, 1) := by decide +kernel
theorem dX9_fund_33 : decode cX9_fund 33 = .ok (.getfield 10, 3) := by decide +kernel
theorem dX9_fund_36 : decode cX9_fund 36 = .ok (.iload_n 1, 1) := by decide +kernel
theorem dX9_fund_37 : decode cX9_fund 37 = .ok (.iload_n 2, 1) := by decide +kernel
theorem dX9_fund_38 : decode cX9_fund 38 = .ok (.iload_n 3, 1) := by decide +kernel
theorem dX9_fund_39 : decode cX9_fund 39 = .ok (.ifCond .eq 7, 3) := by decide +kernel
theorem dX9_fund_42 : decode cX9_fund 42 = .ok (.iconst 1, 1) := by decide +kernel
theorem dX9_fund_43 : decode cX9_fund 43 = .ok (.goto 4, 3) := by decide +kernel
theorem dX9_fund_46 : decode cX9_fund 46 = .ok (.iconst 0, 1) := by decide +kernel
theorem dX9_fund_47 : decode cX9_fund 47 = .ok (.iload 4, 2) := by decide +kernel
theorem dX9_fund_49 : decode cX9_fund 49 = .ok (.invokevirtual 103, 3) := by decide +kernel
theorem dX9_fund_52 : decode cX9_fund 52 = .ok (.aload_n 0, 1) := by decide +kernel
theorem dX9_fund_53 : decode cX9_fund 53 = .ok (.getfield 10, 3) := by decide +kernel
theorem dX9_fund_56 : decode cX9_fund 56 = .ok (.iload_n 2, 1) := by decide +kernel
theorem dX9_fund_57 : decode cX9_fund 57 = .ok (.invokevirtual 107, 3) := by decide +kernel
theorem dX9_fund_60 : decode cX9_fund 60 = .ok (.ireturn, 1) := by decide +kernel
theorem dX9_giveUp_0 : decode cX9_giveUp 0 = .ok (.aload_n 0, 1) := by decide +kernel
theorem dX9_giveUp_1 : decode cX9_giveUp 1 = .ok (.getfield 10, 3) := by decide +kernel
theorem dX9_giveUp_4 : decode cX9_giveUp 4 = .ok (.iload_n 1, 1) := by decide +kernel
theorem dX9_giveUp_5 : decode cX9_giveUp 5 = .ok (.invokevirtual 111, 3) := by decide +kernel
theorem dX9_giveUp_8 : decode cX9_giveUp 8 = .ok (.ifCond .ne 5, 3) := by decide +kernel
theorem dX9_giveUp_11 : decode cX9_giveUp 11 = .ok (.iconst (-1), 1) := by decide +kernel
theorem dX9_giveUp_12 : decode cX9_giveUp 12 = .ok (.ireturn, 1) := by decide +kernel
theorem dX9_giveUp_13 : decode cX9_giveUp 13 = .ok (.aload_n 0, 1) := by decide +kernel
theorem dX9_giveUp_14 : decode cX9_giveUp 14 = .ok (.getfield 10, 3) := by decide +kernel
theorem dX9_giveUp_17 : decode cX9_giveUp 17 = .ok (.getfield 90, 3) := by decide +kernel
theorem dX9_giveUp_20 : decode cX9_giveUp 20 = .ok (.iload_n 1, 1) := by decide +kernel
theorem dX9_giveUp_21 : decode cX9_giveUp 21 = .ok (.aaload, 1) := by decide +kernel
theorem dX9_giveUp_22 : decode cX9_giveUp 22 = .ok (.getfield 114, 3) := by decide +kernel
theorem dX9_giveUp_25 : decode cX9_giveUp 25 = .ok (.ifCond .eq 6, 3) := by decide +kernel
theorem dX9_giveUp_28 : decode cX9_giveUp 28 = .ok (.bipush (-4), 2) := by decide +kernel
theorem dX9_giveUp_30 : decode cX9_giveUp 30 = .ok (.ireturn, 1) := by decide +kernel
theorem dX9_giveUp_31 : decode cX9_giveUp 31 = .ok (.aload_n 0, 1) := by decide +kernel
theorem dX9_giveUp_32 : decode cX9_giveUp 32 = .ok (.getfield 10, 3) := by decide +kernel
theorem dX9_giveUp_35 : decode cX9_giveUp 35 = .ok (.iload_n 1, 1) := by decide +kernel
theorem dX9_giveUp_36 : decode cX9_giveUp 36 = .ok (.iconst 0, 1) := by decide +kernel
theorem dX9_giveUp_37 : decode cX9_giveUp 37 = .ok (.invokevirtual 117, 3) := by decide +kernel
theorem dX9_giveUp_40 : decode cX9_giveUp 40 = .ok (.aload_n 0, 1) := by decide +kernel
theorem dX9_giveUp_41 : decode cX9_giveUp 41 = .ok (.getfield 10, 3) := by decide +kernel
theorem dX9_giveUp_44 : decode cX9_giveUp 44 = .ok (.iload_n 1, 1) := by decide +kernel
theorem dX9_giveUp_45 : decode cX9_giveUp 45 = .ok (.iconst 1, 1) := by decide +kernel
theorem dX9_giveUp_46 : decode cX9_giveUp 46 = .ok (.invokevirtual 117, 3) := by decide +kernel
theorem dX9_giveUp_49 : decode cX9_giveUp 49 = .ok (.iadd, 1) := by decide +kernel
theorem dX9_giveUp_50 : decode cX9_giveUp 50 = .ok (.istore_n 2, 1) := by decide +kernel
theorem dX9_giveUp_51 : decode cX9_giveUp 51 = .ok (.aload_n 0, 1) := by decide +kernel
theorem dX9_giveUp_52 : decode cX9_giveUp 52 = .ok (.getfield 50, 3) := by decide +kernel
theorem dX9_giveUp_55 : decode cX9_giveUp 55 = .ok (.aload_n 0, 1) := by decide +kernel
theorem dX9_giveUp_56 : decode cX9_giveUp 56 = .ok (.getfield 10, 3) := by decide +kernel
theorem dX9_giveUp_59 : decode cX9_giveUp 59 = .ok (.iload_n 1, 1) := by decide +kernel
theorem dX9_giveUp_60 : decode cX9_giveUp 60 = .ok (.invokevirtual 121, 3) := by decide +kernel
theorem dX9_giveUp_63 : decode cX9_giveUp 63 = .ok (.aload_n 0, 1) := by decide +kernel
theorem dX9_giveUp_64 : decode cX9_giveUp 64 = .ok (.getfield 50, 3) := by decide +kernel
theorem dX9_giveUp_67 : decode cX9_giveUp 67 = .ok (.aload_n 0, 1) := by decide +kernel
theorem dX9_giveUp_68 : decode cX9_giveUp 68 = .ok (.getfield 10, 3) := by decide +kernel
theorem dX9_giveUp_71 : decode cX9_giveUp 71 = .ok (.invokevirtual 125, 3) := by decide +kernel
theorem dX9_giveUp_74 : decode cX9_giveUp 74 = .ok (.ifCond .ne 6, 3) := by decide +kernel
theorem dX9_giveUp_77 : decode cX9_giveUp 77 = .ok (.bipush (-3), 2) := by decide +kernel
theorem dX9_giveUp_79 : decode cX9_giveUp 79 = .ok (.ireturn, 1) := by decide +kernel
theorem dX9_giveUp_80 : decode cX9_giveUp 80 = .ok (.aload_n 0, 1) := by decide +kernel
theorem dX9_giveUp_81 : decode cX9_giveUp 81 = .ok (.getfield 29, 3) := by decide +kernel
theorem dX9_giveUp_84 : decode cX9_giveUp 84 = .ok (.aload_n 0, 1) := by decide +kernel
theorem dX9_giveUp_85 : decode cX9_giveUp 85 = .ok (.getfield 10, 3) := by decide +kernel
theorem dX9_giveUp_88 : decode cX9_giveUp 88 = .ok (.invokevirtual 58, 3) := by decide +kernel
theorem dX9_giveUp_91 : decode cX9_giveUp 91 = .ok (.aload_n 0, 1) := by decide +kernel
theorem dX9_giveUp_92 : decode cX9_giveUp 92 = .ok (.getfield 50, 3) := by decide +kernel
theorem dX9_giveUp_95 : decode cX9_giveUp 95 = .ok (.aload_n 0, 1) := by decide +kernel
theorem dX9_giveUp_96 : decode cX9_giveUp 96 = .ok (.getfield 10, 3) := by decide +kernel
theorem dX9_giveUp_99 : decode cX9_giveUp 99 = .ok (.invokevirtual 129, 3) := by decide +kernel
theorem dX9_giveUp_102 : decode cX9_giveUp 102 = .ok (.aload_n 0, 1) := by decide +kernel
theorem dX9_giveUp_103 : decode cX9_giveUp 103 = .ok (.getfield 10, 3) := by decide +kernel
theorem dX9_giveUp_106 : decode cX9_giveUp 106 = .ok (.getfield 90, 3) := by decide +kernel
theorem dX9_giveUp_109 : decode cX9_giveUp 109 = .ok (.iload_n 1, 1) := by decide +kernel
theorem dX9_giveUp_110 : decode cX9_giveUp 110 = .ok (.aaload, 1) := by decide +kernel
theorem dX9_giveUp_111 : decode cX9_giveUp 111 = .ok (.iconst 4, 1) := by decide +kernel
theorem dX9_giveUp_112 : decode cX9_giveUp 112 = .ok (.invokevirtual 132, 3) := by decide +kernel
theorem dX9_giveUp_115 : decode cX9_giveUp 115 = .ok (.iload_n 2, 1) := by decide +kernel
theorem dX9_giveUp_116 : decode cX9_giveUp 116 = .ok (.ireturn, 1) := by decide +kernel
theorem dX9_pay_0 : decode cX9_pay 0 = .ok (.aload_n 0, 1) := by decide +kernel
theorem dX9_pay_1 : decode cX9_pay 1 = .ok (.getfield 10, 3) := by decide +kernel
theorem dX9_pay_4 : decode cX9_pay 4 = .ok (.iload_n 1, 1) := by decide +kernel
theorem dX9_pay_5 : decode cX9_pay 5 = .ok (.invokevirtual 111, 3) := by decide +kernel
theorem dX9_pay_8 : decode cX9_pay 8 = .ok (.ifCond .ne 5, 3) := by decide +kernel
theorem dX9_pay_11 : decode cX9_pay 11 = .ok (.iconst (-1), 1) := by decide +kernel
theorem dX9_pay_12 : decode cX9_pay 12 = .ok (.ireturn, 1) := by decide +kernel
theorem dX9_pay_13 : decode cX9_pay 13 = .ok (.iload_n 2, 1) := by decide +kernel
theorem dX9_pay_14 : decode cX9_pay 14 = .ok (.invokestatic 135, 3) := by decide +kernel
theorem dX9_pay_17 : decode cX9_pay 17 = .ok (.ifCond .ne 6, 3) := by decide +kernel
theorem dX9_pay_20 : decode cX9_pay 20 = .ok (.bipush (-2), 2) := by decide +kernel
theorem dX9_pay_22 : decode cX9_pay 22 = .ok (.ireturn, 1) := by decide +kernel
theorem dX9_pay_23 : decode cX9_pay 23 = .ok (.aload_n 0, 1) := by decide +kernel
theorem dX9_pay_24 : decode cX9_pay 24 = .ok (.getfield 43, 3) := by decide +kernel
theorem dX9_pay_27 : decode cX9_pay 27 = .ok (.aload_n 0, 1) := by decide +kernel
theorem dX9_pay_28 : decode cX9_pay 28 = .ok (.getfield 10, 3) := by decide +kernel
theorem dX9_pay_31 : decode cX9_pay 31 = .ok (.iload_n 1, 1) := by decide +kernel
theorem dX9_pay_32 : decode cX9_pay 32 = .ok (.iload_n 2, 1) := by decide +kernel
theorem dX9_pay_33 : decode cX9_pay 33 = .ok (.invokevirtual 138, 3) := by decide +kernel
theorem dX9_pay_36 : decode cX9_pay 36 = .ok (.ifCond .ne 6, 3) := by decide +kernel
theorem dX9_pay_39 : decode cX9_pay 39 = .ok (.bipush (-4), 2) := by decide +kernel
theorem dX9_pay_41 : decode cX9_pay 41 = .ok (.ireturn, 1) := by decide +kernel
theorem dX9_pay_42 : decode cX9_pay 42 = .ok (.aload_n 0, 1) := by decide +kernel
theorem dX9_pay_43 : decode cX9_pay 43 = .ok (.getfield 50, 3) := by decide +kernel
theorem dX9_pay_46 : decode cX9_pay 46 = .ok (.aload_n 0, 1) := by decide +kernel
theorem dX9_pay_47 : decode cX9_pay 47 = .ok (.getfield 10, 3) := by decide +kernel
theorem dX9_pay_50 : decode cX9_pay 50 = .ok (.iload_n 1, 1) := by decide +kernel
theorem dX9_pay_51 : decode cX9_pay 51 = .ok (.aload_n 0, 1) := by decide +kernel
theorem dX9_pay_52 : decode cX9_pay 52 = .ok (.getfield 43, 3) := by decide +kernel
theorem dX9_pay_55 : decode cX9_pay 55 = .ok (.invokevirtual 142, 3) := by decide +kernel
theorem dX9_pay_58 : decode cX9_pay 58 = .ok (.aload_n 0, 1) := by decide +kernel
theorem dX9_pay_59 : decode cX9_pay 59 = .ok (.getfield 50, 3) := by decide +kernel
theorem dX9_pay_62 : decode cX9_pay 62 = .ok (.aload_n 0, 1) := by decide +kernel
theorem dX9_pay_63 : decode cX9_pay 63 = .ok (.getfield 10, 3) := by decide +kernel
theorem dX9_pay_66 : decode cX9_pay 66 = .ok (.invokevirtual 125, 3) := by decide +kernel
theorem dX9_pay_69 : decode cX9_pay 69 = .ok (.ifCond .ne 6, 3) := by decide +kernel
theorem dX9_pay_72 : decode cX9_pay 72 = .ok (.bipush (-3), 2) := by decide +kernel
theorem dX9_pay_74 : decode cX9_pay 74 = .ok (.ireturn, 1) := by decide +kernel
theorem dX9_pay_75 : decode cX9_pay 75 = .ok (.aload_n 0, 1) := by decide +kernel
theorem dX9_pay_76 : decode cX9_pay 76 = .ok (.getfield 29, 3) := by decide +kernel
theorem dX9_pay_79 : decode cX9_pay 79 = .ok (.aload_n 0, 1) := by decide +kernel
theorem dX9_pay_80 : decode cX9_pay 80 = .ok (.getfield 10, 3) := by decide +kernel
theorem dX9_pay_83 : decode cX9_pay 83 = .ok (.invokevirtual 58, 3) := by decide +kernel
theorem dX9_pay_86 : decode cX9_pay 86 = .ok (.aload_n 0, 1) := by decide +kernel
theorem dX9_pay_87 : decode cX9_pay 87 = .ok (.getfield 50, 3) := by decide +kernel
theorem dX9_pay_90 : decode cX9_pay 90 = .ok (.aload_n 0, 1) := by decide +kernel
theorem dX9_pay_91 : decode cX9_pay 91 = .ok (.getfield 10, 3) := by decide +kernel
theorem dX9_pay_94 : decode cX9_pay 94 = .ok (.invokevirtual 129, 3) := by decide +kernel
theorem dX9_pay_97 : decode cX9_pay 97 = .ok (.aload_n 0, 1) := by decide +kernel
theorem dX9_pay_98 : decode cX9_pay 98 = .ok (.getfield 10, 3) := by decide +kernel
theorem dX9_pay_101 : decode cX9_pay 101 = .ok (.iload_n 1, 1) := by decide +kernel
theorem dX9_pay_102 : decode cX9_pay 102 = .ok (.aload_n 0, 1) := by decide +kernel
theorem dX9_pay_103 : decode cX9_pay 103 = .ok (.getfield 43, 3) := by decide +kernel
theorem dX9_pay_106 : decode cX9_pay 106 = .ok (.invokevirtual 146, 3) := by decide +kernel
theorem dX9_pay_109 : decode cX9_pay 109 = .ok (.aload_n 0, 1) := by decide +kernel
theorem dX9_pay_110 : decode cX9_pay 110 = .ok (.getfield 10, 3) := by decide +kernel
theorem dX9_pay_113 : decode cX9_pay 113 = .ok (.getfield 90, 3) := by decide +kernel
theorem dX9_pay_116 : decode cX9_pay 116 = .ok (.iload_n 1, 1) := by decide +kernel
theorem dX9_pay_117 : decode cX9_pay 117 = .ok (.aaload, 1) := by decide +kernel
theorem dX9_pay_118 : decode cX9_pay 118 = .ok (.getfield 150, 3) := by decide +kernel
theorem dX9_pay_121 : decode cX9_pay 121 = .ok (.ireturn, 1) := by decide +kernel
theorem dX9_cure_0 : decode cX9_cure 0 = .ok (.aload_n 0, 1) := by decide +kernel
theorem dX9_cure_1 : decode cX9_cure 1 = .ok (.getfield 10, 3) := by decide +kernel
theorem dX9_cure_4 : decode cX9_cure 4 = .ok (.iload_n 1, 1) := by decide +kernel
theorem dX9_cure_5 : decode cX9_cure 5 = .ok (.invokevirtual 111, 3) := by decide +kernel
theorem dX9_cure_8 : decode cX9_cure 8 = .ok (.ifCond .ne 5, 3) := by decide +kernel
theorem dX9_cure_11 : decode cX9_cure 11 = .ok (.iconst (-1), 1) := by decide +kernel
theorem dX9_cure_12 : decode cX9_cure 12 = .ok (.ireturn, 1) := by decide +kernel
theorem dX9_cure_13 : decode cX9_cure 13 = .ok (.iload_n 2, 1) := by decide +kernel
theorem dX9_cure_14 : decode cX9_cure 14 = .ok (.invokestatic 84, 3) := by decide +kernel
theorem dX9_cure_17 : decode cX9_cure 17 = .ok (.ifCond .ne 6, 3) := by decide +kernel
theorem dX9_cure_20 : decode cX9_cure 20 = .ok (.bipush (-2), 2) := by decide +kernel
theorem dX9_cure_22 : decode cX9_cure 22 = .ok (.ireturn, 1) := by decide +kernel
theorem dX9_cure_23 : decode cX9_cure 23 = .ok (.aload_n 0, 1) := by decide +kernel
theorem dX9_cure_24 : decode cX9_cure 24 = .ok (.getfield 10, 3) := by decide +kernel
theorem dX9_cure_27 : decode cX9_cure 27 = .ok (.getfield 90, 3) := by decide +kernel
theorem dX9_cure_30 : decode cX9_cure 30 = .ok (.iload_n 1, 1) := by decide +kernel
theorem dX9_cure_31 : decode cX9_cure 31 = .ok (.aaload, 1) := by decide +kernel
theorem dX9_cure_32 : decode cX9_cure 32 = .ok (.astore_n 3, 1) := by decide +kernel
theorem dX9_cure_33 : decode cX9_cure 33 = .ok (.aload_n 3, 1) := by decide +kernel
theorem dX9_cure_34 : decode cX9_cure 34 = .ok (.getfield 114, 3) := by decide +kernel
theorem dX9_cure_37 : decode cX9_cure 37 = .ok (.iconst 1, 1) := by decide +kernel
theorem dX9_cure_38 : decode cX9_cure 38 = .ok (.if_icmp .ne 17, 3) := by decide +kernel
theorem dX9_cure_41 : decode cX9_cure 41 = .ok (.aload_n 3, 1) := by decide +kernel
theorem dX9_cure_42 : decode cX9_cure 42 = .ok (.getfield 153, 3) := by decide +kernel
theorem dX9_cure_45 : decode cX9_cure 45 = .ok (.ifCond .eq 10, 3) := by decide +kernel
theorem dX9_cure_48 : decode cX9_cure 48 = .ok (.aload_n 3, 1) := by decide +kernel
theorem dX9_cure_49 : decode cX9_cure 49 = .ok (.getfield 156, 3) := by decide +kernel
theorem dX9_cure_52 : decode cX9_cure 52 = .ok (.ifCond .le 6, 3) := by decide +kernel
theorem dX9_cure_55 : decode cX9_cure 55 = .ok (.bipush (-4), 2) := by decide +kernel
theorem dX9_cure_57 : decode cX9_cure 57 = .ok (.ireturn, 1) := by decide +kernel
theorem dX9_cure_58 : decode cX9_cure 58 = .ok (.aload_n 0, 1) := by decide +kernel
theorem dX9_cure_59 : decode cX9_cure 59 = .ok (.getfield 29, 3) := by decide +kernel
theorem dX9_cure_62 : decode cX9_cure 62 = .ok (.aload_n 0, 1) := by decide +kernel
theorem dX9_cure_63 : decode cX9_cure 63 = .ok (.getfield 10, 3) := by decide +kernel
theorem dX9_cure_66 : decode cX9_cure 66 = .ok (.invokevirtual 58, 3) := by decide +kernel
theorem dX9_cure_69 : decode cX9_cure 69 = .ok (.aload_n 3, 1) := by decide +kernel
theorem dX9_cure_70 : decode cX9_cure 70 = .ok (.iconst 0, 1) := by decide +kernel
theorem dX9_cure_71 : decode cX9_cure 71 = .ok (.putfield 159, 3) := by decide +kernel
theorem dX9_cure_74 : decode cX9_cure 74 = .ok (.aload_n 3, 1) := by decide +kernel
theorem dX9_cure_75 : decode cX9_cure 75 = .ok (.iconst 0, 1) := by decide +kernel
theorem dX9_cure_76 : decode cX9_cure 76 = .ok (.putfield 153, 3) := by decide +kernel
theorem dX9_cure_79 : decode cX9_cure 79 = .ok (.aload_n 3, 1) := by decide +kernel
theorem dX9_cure_80 : decode cX9_cure 80 = .ok (.aload_n 3, 1) := by decide +kernel
theorem dX9_cure_81 : decode cX9_cure 81 = .ok (.getfield 150, 3) := by decide +kernel
theorem dX9_cure_84 : decode cX9_cure 84 = .ok (.iload_n 2, 1) := by decide +kernel
theorem dX9_cure_85 : decode cX9_cure 85 = .ok (.invokestatic 162, 3) := by decide +kernel
theorem dX9_cure_88 : decode cX9_cure 88 = .ok (.putfield 165, 3) := by decide +kernel
theorem dX9_cure_91 : decode cX9_cure 91 = .ok (.aload_n 3, 1) := by decide +kernel
theorem dX9_cure_92 : decode cX9_cure 92 = .ok (.getfield 165, 3) := by decide +kernel
theorem dX9_cure_95 : decode cX9_cure 95 = .ok (.ireturn, 1) := by decide +kernel
theorem dX9_sell_0 : decode cX9_sell 0 = .ok (.aload_n 0, 1) := by decide +kernel
theorem dX9_sell_1 : decode cX9_sell 1 = .ok (.getfield 10, 3) := by decide +kernel
theorem dX9_sell_4 : decode cX9_sell 4 = .ok (.iload_n 1, 1) := by decide +kernel
theorem dX9_sell_5 : decode cX9_sell 5 = .ok (.invokevirtual 111, 3) := by decide +kernel
theorem dX9_sell_8 : decode cX9_sell 8 = .ok (.ifCond .ne 5, 3) := by decide +kernel
theorem dX9_sell_11 : decode cX9_sell 11 = .ok (.iconst (-1), 1) := by decide +kernel
theorem dX9_sell_12 : decode cX9_sell 12 = .ok (.ireturn, 1) := by decide +kernel
theorem dX9_sell_13 : decode cX9_sell 13 = .ok (.iload_n 2, 1) := by decide +kernel
theorem dX9_sell_14 : decode cX9_sell 14 = .ok (.invokestatic 168, 3) := by decide +kernel
theorem dX9_sell_17 : decode cX9_sell 17 = .ok (.ifCond .ne 6, 3) := by decide +kernel
theorem dX9_sell_20 : decode cX9_sell 20 = .ok (.bipush (-2), 2) := by decide +kernel
theorem dX9_sell_22 : decode cX9_sell 22 = .ok (.ireturn, 1) := by decide +kernel
theorem dX9_sell_23 : decode cX9_sell 23 = .ok (.aload_n 0, 1) := by decide +kernel
theorem dX9_sell_24 : decode cX9_sell 24 = .ok (.getfield 10, 3) := by decide +kernel
theorem dX9_sell_27 : decode cX9_sell 27 = .ok (.iload_n 1, 1) := by decide +kernel
theorem dX9_sell_28 : decode cX9_sell 28 = .ok (.invokevirtual 171, 3) := by decide +kernel
theorem dX9_sell_31 : decode cX9_sell 31 = .ok (.ifCond .eq 19, 3) := by decide +kernel
theorem dX9_sell_34 : decode cX9_sell 34 = .ok (.aload_n 0, 1) := by decide +kernel
theorem dX9_sell_35 : decode cX9_sell 35 = .ok (.getfield 10, 3) := by decide +kernel
theorem dX9_sell_38 : decode cX9_sell 38 = .ok (.getfield 90, 3) := by decide +kernel
theorem dX9_sell_41 : decode cX9_sell 41 = .ok (.iload_n 1, 1) := by decide +kernel
theorem dX9_sell_42 : decode cX9_sell 42 = .ok (.aaload, 1) := by decide +kernel
theorem dX9_sell_43 : decode cX9_sell 43 = .ok (.getfield 153, 3) := by decide +kernel
theorem dX9_sell_46 : decode cX9_sell 46 = .ok (.iconst 3, 1) := by decide +kernel
theorem dX9_sell_47 : decode cX9_sell 47 = .ok (.if_icmp .ge 6, 3) := by decide +kernel
theorem dX9_sell_50 : decode cX9_sell 50 = .ok (.bipush (-4), 2) := by decide +kernel
theorem dX9_sell_52 : decode cX9_sell 52 = .ok (.ireturn, 1) := by decide +kernel
theorem dX9_sell_53 : decode cX9_sell 53 = .ok (.aload_n 0, 1) := by decide +kernel
theorem dX9_sell_54 : decode cX9_sell 54 = .ok (.getfield 50, 3) := by decide +kernel
theorem dX9_sell_57 : decode cX9_sell 57 = .ok (.aload_n 0, 1) := by decide +kernel
theorem dX9_sell_58 : decode cX9_sell 58 = .ok (.getfield 10, 3) := by decide +kernel
theorem dX9_sell_61 : decode cX9_sell 61 = .ok (.iload_n 1, 1) := by decide +kernel
theorem dX9_sell_62 : decode cX9_sell 62 = .ok (.iload_n 2, 1) := by decide +kernel
theorem dX9_sell_63 : decode cX9_sell 63 = .ok (.invokevirtual 174, 3) := by decide +kernel
theorem dX9_sell_66 : decode cX9_sell 66 = .ok (.istore_n 3, 1) := by decide +kernel
theorem dX9_sell_67 : decode cX9_sell 67 = .ok (.aload_n 0, 1) := by decide +kernel
theorem dX9_sell_68 : decode cX9_sell 68 = .ok (.getfield 50, 3) := by decide +kernel
theorem dX9_sell_71 : decode cX9_sell 71 = .ok (.aload_n 0, 1) := by decide +kernel
theorem dX9_sell_72 : decode cX9_sell 72 = .ok (.getfield 10, 3) := by decide +kernel
theorem dX9_sell_75 : decode cX9_sell 75 = .ok (.invokevirtual 125, 3) := by decide +kernel
theorem dX9_sell_78 : decode cX9_sell 78 = .ok (.ifCond .ne 6, 3) := by decide +kernel
theorem dX9_sell_81 : decode cX9_sell 81 = .ok (.bipush (-3), 2) := by decide +kernel
theorem dX9_sell_83 : decode cX9_sell 83 = .ok (.ireturn, 1) := by decide +kernel
theorem dX9_sell_84 : decode cX9_sell 84 = .ok (.aload_n 0, 1) := by decide +kernel
theorem dX9_sell_85 : decode cX9_sell 85 = .ok (.getfield 29, 3) := by decide +kernel
theorem dX9_sell_88 : decode cX9_sell 88 = .ok (.aload_n 0, 1) := by decide +kernel
theorem dX9_sell_89 : decode cX9_sell 89 = .ok (.getfield 10, 3) := by decide +kernel
theorem dX9_sell_92 : decode cX9_sell 92 = .ok (.invokevirtual 58, 3) := by decide +kernel
theorem dX9_sell_95 : decode cX9_sell 95 = .ok (.aload_n 0, 1) := by decide +kernel
theorem dX9_sell_96 : decode cX9_sell 96 = .ok (.getfield 50, 3) := by decide +kernel
theorem dX9_sell_99 : decode cX9_sell 99 = .ok (.aload_n 0, 1) := by decide +kernel
theorem dX9_sell_100 : decode cX9_sell 100 = .ok (.getfield 10, 3) := by decide +kernel
theorem dX9_sell_103 : decode cX9_sell 103 = .ok (.invokevirtual 129, 3) := by decide +kernel
theorem dX9_sell_106 : decode cX9_sell 106 = .ok (.aload_n 0, 1) := by decide +kernel
theorem dX9_sell_107 : decode cX9_sell 107 = .ok (.getfield 10, 3) := by decide +kernel
theorem dX9_sell_110 : decode cX9_sell 110 = .ok (.iload_n 3, 1) := by decide +kernel
theorem dX9_sell_111 : decode cX9_sell 111 = .ok (.putfield 178, 3) := by decide +kernel
theorem dX9_sell_114 : decode cX9_sell 114 = .ok (.aload_n 0, 1) := by decide +kernel
theorem dX9_sell_115 : decode cX9_sell 115 = .ok (.getfield 10, 3) := by decide +kernel
theorem dX9_sell_118 : decode cX9_sell 118 = .ok (.getfield 90, 3) := by decide +kernel
theorem dX9_sell_121 : decode cX9_sell 121 = .ok (.iload_n 1, 1) := by decide +kernel
theorem dX9_sell_122 : decode cX9_sell 122 = .ok (.aaload, 1) := by decide +kernel
theorem dX9_sell_123 : decode cX9_sell 123 = .ok (.iconst 3, 1) := by decide +kernel
theorem dX9_sell_124 : decode cX9_sell 124 = .ok (.invokevirtual 132, 3) := by decide +kernel
theorem dX9_sell_127 : decode cX9_sell 127 = .ok (.aload_n 0, 1) := by decide +kernel
theorem dX9_sell_128 : decode cX9_sell 128 = .ok (.getfield 10, 3) := by decide +kernel
theorem dX9_sell_131 : decode cX9_sell 131 = .ok (.iload_n 1, 1) := by decide +kernel
theorem dX9_sell_132 : decode cX9_sell 132 = .ok (.invokevirtual 181, 3) := by decide +kernel
theorem dX9_sell_135 : decode cX9_sell 135 = .ok (.ireturn, 1) := by decide +kernel
theorem dX9_switchServicer_0 : decode cX9_switchServicer 0 = .ok (.aload_n 0, 1) := by decide +kernel
theorem dX9_switchServicer_1 : decode cX9_switchServicer 1 = .ok (.getfield 10, 3) := by decide +kernel
theorem dX9_switchServicer_4 : decode cX9_switchServicer 4 = .ok (.iload_n 1, 1) := by decide +kernel
theorem dX9_switchServicer_5 : decode cX9_switchServicer 5 = .ok (.invokevirtual 111, 3) := by decide +kernel
theorem dX9_switchServicer_8 : decode cX9_switchServicer 8 = .ok (.ifCond .eq 10, 3) := by decide +kernel
theorem dX9_switchServicer_11 : decode cX9_switchServicer 11 = .ok (.iload_n 2, 1) := by decide +kernel
theorem dX9_switchServicer_12 : decode cX9_switchServicer 12 = .ok (.invokestatic 184, 3) := by decide +kernel
theorem dX9_switchServicer_15 : decode cX9_switchServicer 15 = .ok (.ifCond .ne 5, 3) := by decide +kernel
theorem dX9_switchServicer_18 : decode cX9_switchServicer 18 = .ok (.iconst (-1), 1) := by decide +kernel
theorem dX9_switchServicer_19 : decode cX9_switchServicer 19 = .ok (.ireturn, 1) := by decide +kernel
theorem dX9_switchServicer_20 : decode cX9_switchServicer 20 = .ok (.aload_n 0, 1) := by decide +kernel
theorem dX9_switchServicer_21 : decode cX9_switchServicer 21 = .ok (.getfield 10, 3) := by decide +kernel
theorem dX9_switchServicer_24 : decode cX9_switchServicer 24 = .ok (.iload_n 1, 1) := by decide +kernel
theorem dX9_switchServicer_25 : decode cX9_switchServicer 25 = .ok (.invokevirtual 171, 3) := by decide +kernel
theorem dX9_switchServicer_28 : decode cX9_switchServicer 28 = .ok (.ifCond .ne 6, 3) := by decide +kernel
theorem dX9_switchServicer_31 : decode cX9_switchServicer 31 = .ok (.bipush (-4), 2) := by decide +kernel
theorem dX9_switchServicer_33 : decode cX9_switchServicer 33 = .ok (.ireturn, 1) := by decide +kernel
theorem dX9_switchServicer_34 : decode cX9_switchServicer 34 = .ok (.aload_n 0, 1) := by decide +kernel
theorem dX9_switchServicer_35 : decode cX9_switchServicer 35 = .ok (.getfield 10, 3) := by decide +kernel
theorem dX9_switchServicer_38 : decode cX9_switchServicer 38 = .ok (.getfield 90, 3) := by decide +kernel
theorem dX9_switchServicer_41 : decode cX9_switchServicer 41 = .ok (.iload_n 1, 1) := by decide +kernel
theorem dX9_switchServicer_42 : decode cX9_switchServicer 42 = .ok (.aaload, 1) := by decide +kernel
theorem dX9_switchServicer_43 : decode cX9_switchServicer 43 = .ok (.astore_n 3, 1) := by decide +kernel
theorem dX9_switchServicer_44 : decode cX9_switchServicer 44 = .ok (.aload_n 3, 1) := by decide +kernel
theorem dX9_switchServicer_45 : decode cX9_switchServicer 45 = .ok (.getfield 187, 3) := by decide +kernel
theorem dX9_switchServicer_48 : decode cX9_switchServicer 48 = .ok (.bipush (-5), 2) := by decide +kernel
theorem dX9_switchServicer_50 : decode cX9_switchServicer 50 = .ok (.if_icmp .ne 10, 3) := by decide +kernel
theorem dX9_switchServicer_53 : decode cX9_switchServicer 53 = .ok (.aload_n 3, 1) := by decide +kernel
theorem dX9_switchServicer_54 : decode cX9_switchServicer 54 = .ok (.getfield 190, 3) := by decide +kernel
theorem dX9_switchServicer_57 : decode cX9_switchServicer 57 = .ok (.goto 7, 3) := by decide +kernel
theorem dX9_switchServicer_60 : decode cX9_switchServicer 60 = .ok (.aload_n 3, 1) := by decide +kernel
theorem dX9_switchServicer_61 : decode cX9_switchServicer 61 = .ok (.getfield 187, 3) := by decide +kernel
theorem dX9_switchServicer_64 : decode cX9_switchServicer 64 = .ok (.istore 4, 2) := by decide +kernel
theorem dX9_switchServicer_66 : decode cX9_switchServicer 66 = .ok (.iload_n 2, 1) := by decide +kernel
theorem dX9_switchServicer_67 : decode cX9_switchServicer 67 = .ok (.iload 4, 2) := by decide +kernel
theorem dX9_switchServicer_69 : decode cX9_switchServicer 69 = .ok (.if_icmp .ne 6, 3) := by decide +kernel
theorem dX9_switchServicer_72 : decode cX9_switchServicer 72 = .ok (.bipush (-5), 2) := by decide +kernel
theorem dX9_switchServicer_74 : decode cX9_switchServicer 74 = .ok (.ireturn, 1) := by decide +kernel
theorem dX9_switchServicer_75 : decode cX9_switchServicer 75 = .ok (.aload_n 0, 1) := by decide +kernel
theorem dX9_switchServicer_76 : decode cX9_switchServicer 76 = .ok (.getfield 29, 3) := by decide +kernel
theorem dX9_switchServicer_79 : decode cX9_switchServicer 79 = .ok (.aload_n 0, 1) := by decide +kernel
theorem dX9_switchServicer_80 : decode cX9_switchServicer 80 = .ok (.getfield 10, 3) := by decide +kernel
theorem dX9_switchServicer_83 : decode cX9_switchServicer 83 = .ok (.invokevirtual 58, 3) := by decide +kernel
theorem dX9_switchServicer_86 : decode cX9_switchServicer 86 = .ok (.aload_n 3, 1) := by decide +kernel
theorem dX9_switchServicer_87 : decode cX9_switchServicer 87 = .ok (.iload_n 2, 1) := by decide +kernel
theorem dX9_switchServicer_88 : decode cX9_switchServicer 88 = .ok (.putfield 187, 3) := by decide +kernel
theorem dX9_switchServicer_91 : decode cX9_switchServicer 91 = .ok (.aload_n 3, 1) := by decide +kernel
theorem dX9_switchServicer_92 : decode cX9_switchServicer 92 = .ok (.getfield 190, 3) := by decide +kernel
theorem dX9_switchServicer_95 : decode cX9_switchServicer 95 = .ok (.ireturn, 1) := by decide +kernel
theorem dX9_sellNote_0 : decode cX9_sellNote 0 = .ok (.aload_n 0, 1) := by decide +kernel
theorem dX9_sellNote_1 : decode cX9_sellNote 1 = .ok (.getfield 10, 3) := by decide +kernel
theorem dX9_sellNote_4 : decode cX9_sellNote 4 = .ok (.iload_n 1, 1) := by decide +kernel
theorem dX9_sellNote_5 : decode cX9_sellNote 5 = .ok (.invokevirtual 193, 3) := by decide +kernel
theorem dX9_sellNote_8 : decode cX9_sellNote 8 = .ok (.ifCond .eq 14, 3) := by decide +kernel
theorem dX9_sellNote_11 : decode cX9_sellNote 11 = .ok (.aload_n 0, 1) := by decide +kernel
theorem dX9_sellNote_12 : decode cX9_sellNote 12 = .ok (.getfield 10, 3) := by decide +kernel
theorem dX9_sellNote_15 : decode cX9_sellNote 15 = .ok (.iload_n 2, 1) := by decide +kernel
theorem dX9_sellNote_16 : decode cX9_sellNote 16 = .ok (.invokevirtual 72, 3) := by decide +kernel
theorem dX9_sellNote_19 : decode cX9_sellNote 19 = .ok (.ifCond .ne 5, 3) := by decide +kernel
theorem dX9_sellNote_22 : decode cX9_sellNote 22 = .ok (.iconst (-1), 1) := by decide +kernel
theorem dX9_sellNote_23 : decode cX9_sellNote 23 = .ok (.ireturn, 1) := by decide +kernel
theorem dX9_sellNote_24 : decode cX9_sellNote 24 = .ok (.aload_n 0, 1) := by decide +kernel
theorem dX9_sellNote_25 : decode cX9_sellNote 25 = .ok (.getfield 10, 3) := by decide +kernel
theorem dX9_sellNote_28 : decode cX9_sellNote 28 = .ok (.getfield 196, 3) := by decide +kernel
theorem dX9_sellNote_31 : decode cX9_sellNote 31 = .ok (.iload_n 1, 1) := by decide +kernel
theorem dX9_sellNote_32 : decode cX9_sellNote 32 = .ok (.aaload, 1) := by decide +kernel
theorem dX9_sellNote_33 : decode cX9_sellNote 33 = .ok (.astore 4, 2) := by decide +kernel
theorem dX9_sellNote_35 : decode cX9_sellNote 35 = .ok (.aload 4, 2) := by decide +kernel
theorem dX9_sellNote_37 : decode cX9_sellNote 37 = .ok (.getfield 200, 3) := by decide +kernel
theorem dX9_sellNote_40 : decode cX9_sellNote 40 = .ok (.istore 5, 2) := by decide +kernel
theorem dX9_sellNote_42 : decode cX9_sellNote 42 = .ok (.iload_n 3, 1) := by decide +kernel
theorem dX9_sellNote_43 : decode cX9_sellNote 43 = .ok (.invokestatic 168, 3) := by decide +kernel
theorem dX9_sellNote_46 : decode cX9_sellNote 46 = .ok (.ifCond .eq 9, 3) := by decide +kernel
theorem dX9_sellNote_49 : decode cX9_sellNote 49 = .ok (.iload 5, 2) := by decide +kernel
theorem dX9_sellNote_51 : decode cX9_sellNote 51 = .ok (.iload_n 2, 1) := by decide +kernel
theorem dX9_sellNote_52 : decode cX9_sellNote 52 = .ok (.if_icmp .ne 6, 3) := by decide +kernel
theorem dX9_sellNote_55 : decode cX9_sellNote 55 = .ok (.bipush (-2), 2) := by decide +kernel
theorem dX9_sellNote_57 : decode cX9_sellNote 57 = .ok (.ireturn, 1) := by decide +kernel
theorem dX9_sellNote_58 : decode cX9_sellNote 58 = .ok (.aload_n 0, 1) := by decide +kernel
theorem dX9_sellNote_59 : decode cX9_sellNote 59 = .ok (.getfield 10, 3) := by decide +kernel
theorem dX9_sellNote_62 : decode cX9_sellNote 62 = .ok (.aload 4, 2) := by decide +kernel
theorem dX9_sellNote_64 : decode cX9_sellNote 64 = .ok (.getfield 205, 3) := by decide +kernel
theorem dX9_sellNote_67 : decode cX9_sellNote 67 = .ok (.invokevirtual 171, 3) := by decide +kernel
theorem dX9_sellNote_70 : decode cX9_sellNote 70 = .ok (.ifCond .eq 15, 3) := by decide +kernel
theorem dX9_sellNote_73 : decode cX9_sellNote 73 = .ok (.aload_n 0, 1) := by decide +kernel
theorem dX9_sellNote_74 : decode cX9_sellNote 74 = .ok (.getfield 10, 3) := by decide +kernel
theorem dX9_sellNote_77 : decode cX9_sellNote 77 = .ok (.iload_n 2, 1) := by decide +kernel
theorem dX9_sellNote_78 : decode cX9_sellNote 78 = .ok (.invokevirtual 208, 3) := by decide +kernel
theorem dX9_sellNote_81 : decode cX9_sellNote 81 = .ok (.iload_n 3, 1) := by decide +kernel
theorem dX9_sellNote_82 : decode cX9_sellNote 82 = .ok (.if_icmp .ge 6, 3) := by decide +kernel
theorem dX9_sellNote_85 : decode cX9_sellNote 85 = .ok (.bipush (-4), 2) := by decide +kernel
theorem dX9_sellNote_87 : decode cX9_sellNote 87 = .ok (.ireturn, 1) := by decide +kernel
theorem dX9_sellNote_88 : decode cX9_sellNote 88 = .ok (.iload_n 3, 1) := by decide +kernel
theorem dX9_sellNote_89 : decode cX9_sellNote 89 = .ok (.ldc 76, 2) := by decide +kernel
theorem dX9_sellNote_91 : decode cX9_sellNote 91 = .ok (.aload_n 0, 1) := by decide +kernel
theorem dX9_sellNote_92 : decode cX9_sellNote 92 = .ok (.getfield 10, 3) := by decide +kernel
theorem dX9_sellNote_95 : decode cX9_sellNote 95 = .ok (.iload 5, 2) := by decide +kernel
theorem dX9_sellNote_97 : decode cX9_sellNote 97 = .ok (.invokevirtual 208, 3) := by decide +kernel
theorem dX9_sellNote_100 : decode cX9_sellNote 100 = .ok (.isub, 1) := by decide +kernel
theorem dX9_sellNote_101 : decode cX9_sellNote 101 = .ok (.if_icmp .le 6, 3) := by decide +kernel
theorem dX9_sellNote_104 : decode cX9_sellNote 104 = .ok (.bipush (-3), 2) := by decide +kernel
theorem dX9_sellNote_106 : decode cX9_sellNote 106 = .ok (.ireturn, 1) := by decide +kernel
theorem dX9_sellNote_107 : decode cX9_sellNote 107 = .ok (.aload_n 0, 1) := by decide +kernel
theorem dX9_sellNote_108 : decode cX9_sellNote 108 = .ok (.getfield 29, 3) := by decide +kernel
theorem dX9_sellNote_111 : decode cX9_sellNote 111 = .ok (.aload_n 0, 1) := by decide +kernel
theorem dX9_sellNote_112 : decode cX9_sellNote 112 = .ok (.getfield 10, 3) := by decide +kernel
theorem dX9_sellNote_115 : decode cX9_sellNote 115 = .ok (.invokevirtual 58, 3) := by decide +kernel
theorem dX9_sellNote_118 : decode cX9_sellNote 118 = .ok (.aload_n 0, 1) := by decide +kernel
theorem dX9_sellNote_119 : decode cX9_sellNote 119 = .ok (.getfield 10, 3) := by decide +kernel
theorem dX9_sellNote_122 : decode cX9_sellNote 122 = .ok (.iload_n 2, 1) := by decide +kernel
theorem dX9_sellNote_123 : decode cX9_sellNote 123 = .ok (.iload_n 3, 1) := by decide +kernel
theorem dX9_sellNote_124 : decode cX9_sellNote 124 = .ok (.ineg, 1) := by decide +kernel
theorem dX9_sellNote_125 : decode cX9_sellNote 125 = .ok (.invokevirtual 211, 3) := by decide +kernel
theorem dX9_sellNote_128 : decode cX9_sellNote 128 = .ok (.aload_n 0, 1) := by decide +kernel
theorem dX9_sellNote_129 : decode cX9_sellNote 129 = .ok (.getfield 10, 3) := by decide +kernel
theorem dX9_sellNote_132 : decode cX9_sellNote 132 = .ok (.iload 5, 2) := by decide +kernel
theorem dX9_sellNote_134 : decode cX9_sellNote 134 = .ok (.iload_n 3, 1) := by decide +kernel
theorem dX9_sellNote_135 : decode cX9_sellNote 135 = .ok (.invokevirtual 211, 3) := by decide +kernel
theorem dX9_sellNote_138 : decode cX9_sellNote 138 = .ok (.aload 4, 2) := by decide +kernel
theorem dX9_sellNote_140 : decode cX9_sellNote 140 = .ok (.iload_n 2, 1) := by decide +kernel
theorem dX9_sellNote_141 : decode cX9_sellNote 141 = .ok (.putfield 200, 3) := by decide +kernel
theorem dX9_sellNote_144 : decode cX9_sellNote 144 = .ok (.aload 4, 2) := by decide +kernel
theorem dX9_sellNote_146 : decode cX9_sellNote 146 = .ok (.getfield 215, 3) := by decide +kernel
theorem dX9_sellNote_149 : decode cX9_sellNote 149 = .ok (.ireturn, 1) := by decide +kernel
theorem dX9_pass_0 : decode cX9_pass 0 = .ok (.iload_n 1, 1) := by decide +kernel
theorem dX9_pass_1 : decode cX9_pass 1 = .ok (.iconst 1, 1) := by decide +kernel
theorem dX9_pass_2 : decode cX9_pass 2 = .ok (.if_icmp .lt 9, 3) := by decide +kernel
theorem dX9_pass_5 : decode cX9_pass 5 = .ok (.iload_n 1, 1) := by decide +kernel
theorem dX9_pass_6 : decode cX9_pass 6 = .ok (.bipush 24, 2) := by decide +kernel
theorem dX9_pass_8 : decode cX9_pass 8 = .ok (.if_icmp .le 6, 3) := by decide +kernel
theorem dX9_pass_11 : decode cX9_pass 11 = .ok (.bipush (-2), 2) := by decide +kernel
theorem dX9_pass_13 : decode cX9_pass 13 = .ok (.ireturn, 1) := by decide +kernel
theorem dX9_pass_14 : decode cX9_pass 14 = .ok (.iload_n 1, 1) := by decide +kernel
theorem dX9_pass_15 : decode cX9_pass 15 = .ok (.sipush 240, 3) := by decide +kernel
theorem dX9_pass_18 : decode cX9_pass 18 = .ok (.aload_n 0, 1) := by decide +kernel
theorem dX9_pass_19 : decode cX9_pass 19 = .ok (.getfield 10, 3) := by decide +kernel
theorem dX9_pass_22 : decode cX9_pass 22 = .ok (.getfield 216, 3) := by decide +kernel
theorem dX9_pass_25 : decode cX9_pass 25 = .ok (.isub, 1) := by decide +kernel
theorem dX9_pass_26 : decode cX9_pass 26 = .ok (.if_icmp .le 6, 3) := by decide +kernel
theorem dX9_pass_29 : decode cX9_pass 29 = .ok (.bipush (-4), 2) := by decide +kernel
theorem dX9_pass_31 : decode cX9_pass 31 = .ok (.ireturn, 1) := by decide +kernel
theorem dX9_pass_32 : decode cX9_pass 32 = .ok (.aload_n 0, 1) := by decide +kernel
theorem dX9_pass_33 : decode cX9_pass 33 = .ok (.getfield 29, 3) := by decide +kernel
theorem dX9_pass_36 : decode cX9_pass 36 = .ok (.aload_n 0, 1) := by decide +kernel
theorem dX9_pass_37 : decode cX9_pass 37 = .ok (.getfield 10, 3) := by decide +kernel
theorem dX9_pass_40 : decode cX9_pass 40 = .ok (.invokevirtual 58, 3) := by decide +kernel
theorem dX9_pass_43 : decode cX9_pass 43 = .ok (.iconst 0, 1) := by decide +kernel
theorem dX9_pass_44 : decode cX9_pass 44 = .ok (.istore_n 2, 1) := by decide +kernel
theorem dX9_pass_45 : decode cX9_pass 45 = .ok (.iload_n 2, 1) := by decide +kernel
theorem dX9_pass_46 : decode cX9_pass 46 = .ok (.iload_n 1, 1) := by decide +kernel
theorem dX9_pass_47 : decode cX9_pass 47 = .ok (.if_icmp .ge 16, 3) := by decide +kernel
theorem dX9_pass_50 : decode cX9_pass 50 = .ok (.aload_n 0, 1) := by decide +kernel
theorem dX9_pass_51 : decode cX9_pass 51 = .ok (.getfield 10, 3) := by decide +kernel
theorem dX9_pass_54 : decode cX9_pass 54 = .ok (.invokevirtual 219, 3) := by decide +kernel
theorem dX9_pass_57 : decode cX9_pass 57 = .ok (.iinc 2 1, 3) := by decide +kernel
theorem dX9_pass_60 : decode cX9_pass 60 = .ok (.goto (-15), 3) := by decide +kernel
theorem dX9_pass_63 : decode cX9_pass 63 = .ok (.aload_n 0, 1) := by decide +kernel
theorem dX9_pass_64 : decode cX9_pass 64 = .ok (.getfield 10, 3) := by decide +kernel
theorem dX9_pass_67 : decode cX9_pass 67 = .ok (.invokevirtual 222, 3) := by decide +kernel
theorem dX9_pass_70 : decode cX9_pass 70 = .ok (.ireturn, 1) := by decide +kernel
theorem dX9_type_0 : decode cX9_type 0 = .ok (.aload_n 0, 1) := by decide +kernel
theorem dX9_type_1 : decode cX9_type 1 = .ok (.getfield 36, 3) := by decide +kernel
theorem dX9_type_4 : decode cX9_type 4 = .ok (.getfield 226, 3) := by decide +kernel
theorem dX9_type_7 : decode cX9_type 7 = .ok (.bipush 60, 2) := by decide +kernel
theorem dX9_type_9 : decode cX9_type 9 = .ok (.if_icmp .lt 6, 3) := by decide +kernel
theorem dX9_type_12 : decode cX9_type 12 = .ok (.bipush (-3), 2) := by decide +kernel
theorem dX9_type_14 : decode cX9_type 14 = .ok (.ireturn, 1) := by decide +kernel
theorem dX9_type_15 : decode cX9_type 15 = .ok (.aload_n 0, 1) := by decide +kernel
theorem dX9_type_16 : decode cX9_type 16 = .ok (.getfield 36, 3) := by decide +kernel
theorem dX9_type_19 : decode cX9_type 19 = .ok (.getfield 229, 3) := by decide +kernel
theorem dX9_type_22 : decode cX9_type 22 = .ok (.aload_n 0, 1) := by decide +kernel
theorem dX9_type_23 : decode cX9_type 23 = .ok (.getfield 36, 3) := by decide +kernel
theorem dX9_type_26 : decode cX9_type 26 = .ok (.getfield 226, 3) := by decide +kernel
theorem dX9_type_29 : decode cX9_type 29 = .ok (.iload_n 1, 1) := by decide +kernel
theorem dX9_type_30 : decode cX9_type 30 = .ok (.castore, 1) := by decide +kernel
theorem dX9_type_31 : decode cX9_type 31 = .ok (.aload_n 0, 1) := by decide +kernel
theorem dX9_type_32 : decode cX9_type 32 = .ok (.getfield 36, 3) := by decide +kernel
theorem dX9_type_35 : decode cX9_type 35 = .ok (.dup, 1) := by decide +kernel
theorem dX9_type_36 : decode cX9_type 36 = .ok (.getfield 226, 3) := by decide +kernel
theorem dX9_type_39 : decode cX9_type 39 = .ok (.iconst 1, 1) := by decide +kernel
theorem dX9_type_40 : decode cX9_type 40 = .ok (.iadd, 1) := by decide +kernel
theorem dX9_type_41 : decode cX9_type 41 = .ok (.putfield 226, 3) := by decide +kernel
theorem dX9_type_44 : decode cX9_type 44 = .ok (.aload_n 0, 1) := by decide +kernel
theorem dX9_type_45 : decode cX9_type 45 = .ok (.getfield 36, 3) := by decide +kernel
theorem dX9_type_48 : decode cX9_type 48 = .ok (.getfield 226, 3) := by decide +kernel
theorem dX9_type_51 : decode cX9_type 51 = .ok (.ireturn, 1) := by decide +kernel
theorem dX9_clearText_0 : decode cX9_clearText 0 = .ok (.aload_n 0, 1) := by decide +kernel
theorem dX9_clearText_1 : decode cX9_clearText 1 = .ok (.getfield 36, 3) := by decide +kernel
theorem dX9_clearText_4 : decode cX9_clearText 4 = .ok (.getfield 226, 3) := by decide +kernel
theorem dX9_clearText_7 : decode cX9_clearText 7 = .ok (.istore_n 1, 1) := by decide +kernel
theorem dX9_clearText_8 : decode cX9_clearText 8 = .ok (.aload_n 0, 1) := by decide +kernel
theorem dX9_clearText_9 : decode cX9_clearText 9 = .ok (.getfield 36, 3) := by decide +kernel
theorem dX9_clearText_12 : decode cX9_clearText 12 = .ok (.iconst 0, 1) := by decide +kernel
theorem dX9_clearText_13 : decode cX9_clearText 13 = .ok (.putfield 226, 3) := by decide +kernel
theorem dX9_clearText_16 : decode cX9_clearText 16 = .ok (.iload_n 1, 1) := by decide +kernel
theorem dX9_clearText_17 : decode cX9_clearText 17 = .ok (.ireturn, 1) := by decide +kernel
theorem dX9_readFundings_0 : decode cX9_readFundings 0 = .ok (.aload_n 0, 1) := by decide +kernel
theorem dX9_readFundings_1 : decode cX9_readFundings 1 = .ok (.getfield 36, 3) := by decide +kernel
theorem dX9_readFundings_4 : decode cX9_readFundings 4 = .ok (.invokevirtual 233, 3) := by decide +kernel
theorem dX9_readFundings_7 : decode cX9_readFundings 7 = .ok (.istore_n 1, 1) := by decide +kernel
theorem dX9_readFundings_8 : decode cX9_readFundings 8 = .ok (.iload_n 1, 1) := by decide +kernel
theorem dX9_readFundings_9 : decode cX9_readFundings 9 = .ok (.iconst (-1), 1) := by decide +kernel
theorem dX9_readFundings_10 : decode cX9_readFundings 10 = .ok (.if_icmp .eq 8, 3) := by decide +kernel
theorem dX9_readFundings_13 : decode cX9_readFundings 13 = .ok (.bipush (-100), 2) := by decide +kernel
theorem dX9_readFundings_15 : decode cX9_readFundings 15 = .ok (.iload_n 1, 1) := by decide +kernel
theorem dX9_readFundings_16 : decode cX9_readFundings 16 = .ok (.isub, 1) := by decide +kernel
theorem dX9_readFundings_17 : decode cX9_readFundings 17 = .ok (.ireturn, 1) := by decide +kernel
theorem dX9_readFundings_18 : decode cX9_readFundings 18 = .ok (.aload_n 0, 1) := by decide +kernel
theorem dX9_readFundings_19 : decode cX9_readFundings 19 = .ok (.getfield 16, 3) := by decide +kernel
theorem dX9_readFundings_22 : decode cX9_readFundings 22 = .ok (.aload_n 0, 1) := by decide +kernel
theorem dX9_readFundings_23 : decode cX9_readFundings 23 = .ok (.getfield 10, 3) := by decide +kernel
theorem dX9_readFundings_26 : decode cX9_readFundings 26 = .ok (.invokevirtual 236, 3) := by decide +kernel
theorem dX9_readFundings_29 : decode cX9_readFundings 29 = .ok (.iconst 0, 1) := by decide +kernel
theorem dX9_readFundings_30 : decode cX9_readFundings 30 = .ok (.istore_n 2, 1) := by decide +kernel
theorem dX9_readFundings_31 : decode cX9_readFundings 31 = .ok (.iload_n 2, 1) := by decide +kernel
theorem dX9_readFundings_32 : decode cX9_readFundings 32 = .ok (.aload_n 0, 1) := by decide +kernel
theorem dX9_readFundings_33 : decode cX9_readFundings 33 = .ok (.getfield 36, 3) := by decide +kernel
theorem dX9_readFundings_36 : decode cX9_readFundings 36 = .ok (.getfield 239, 3) := by decide +kernel
theorem dX9_readFundings_39 : decode cX9_readFundings 39 = .ok (.if_icmp .ge 82, 3) := by decide +kernel
theorem dX9_readFundings_42 : decode cX9_readFundings 42 = .ok (.aload_n 0, 1) := by decide +kernel
theorem dX9_readFundings_43 : decode cX9_readFundings 43 = .ok (.getfield 36, 3) := by decide +kernel
theorem dX9_readFundings_46 : decode cX9_readFundings 46 = .ok (.getfield 242, 3) := by decide +kernel
theorem dX9_readFundings_49 : decode cX9_readFundings 49 = .ok (.iload_n 2, 1) := by decide +kernel
theorem dX9_readFundings_50 : decode cX9_readFundings 50 = .ok (.aaload, 1) := by decide +kernel
theorem dX9_readFundings_51 : decode cX9_readFundings 51 = .ok (.astore_n 3, 1) := by decide +kernel
theorem dX9_readFundings_52 : decode cX9_readFundings 52 = .ok (.aload_n 0, 1) := by decide +kernel
theorem dX9_readFundings_53 : decode cX9_readFundings 53 = .ok (.getfield 10, 3) := by decide +kernel
theorem dX9_readFundings_56 : decode cX9_readFundings 56 = .ok (.aload_n 3, 1) := by decide +kernel
theorem dX9_readFundings_57 : decode cX9_readFundings 57 = .ok (.getfield 246, 3) := by decide +kernel
theorem dX9_readFundings_60 : decode cX9_readFundings 60 = .ok (.aload_n 3, 1) := by decide +kernel
theorem dX9_readFundings_61 : decode cX9_readFundings 61 = .ok (.getfield 249, 3) := by decide +kernel
theorem dX9_readFundings_64 : decode cX9_readFundings 64 = .ok (.aload_n 3, 1) := by decide +kernel
theorem dX9_readFundings_65 : decode cX9_readFundings 65 = .ok (.getfield 250, 3) := by decide +kernel
theorem dX9_readFundings_68 : decode cX9_readFundings 68 = .ok (.invokevirtual 99, 3) := by decide +kernel
theorem dX9_readFundings_71 : decode cX9_readFundings 71 = .ok (.istore 4, 2) := by decide +kernel
theorem dX9_readFundings_73 : decode cX9_readFundings 73 = .ok (.iload 4, 2) := by decide +kernel
theorem dX9_readFundings_75 : decode cX9_readFundings 75 = .ok (.ifCond .eq 17, 3) := by decide +kernel
theorem dX9_readFundings_78 : decode cX9_readFundings 78 = .ok (.aload_n 0, 1) := by decide +kernel
theorem dX9_readFundings_79 : decode cX9_readFundings 79 = .ok (.getfield 10, 3) := by decide +kernel
theorem dX9_readFundings_82 : decode cX9_readFundings 82 = .ok (.aload_n 0, 1) := by decide +kernel
theorem dX9_readFundings_83 : decode cX9_readFundings 83 = .ok (.getfield 16, 3) := by decide +kernel
theorem dX9_readFundings_86 : decode cX9_readFundings 86 = .ok (.invokevirtual 236, 3) := by decide +kernel
theorem dX9_readFundings_89 : decode cX9_readFundings 89 = .ok (.iload 4, 2) := by decide +kernel
theorem dX9_readFundings_91 : decode cX9_readFundings 91 = .ok (.ireturn, 1) := by decide +kernel
theorem dX9_readFundings_92 : decode cX9_readFundings 92 = .ok (.aload_n 0, 1) := by decide +kernel
theorem dX9_readFundings_93 : decode cX9_readFundings 93 = .ok (.getfield 10, 3) := by decide +kernel
theorem dX9_readFundings_96 : decode cX9_readFundings 96 = .ok (.aload_n 3, 1) := by decide +kernel
theorem dX9_readFundings_97 : decode cX9_readFundings 97 = .ok (.getfield 246, 3) := by decide +kernel
theorem dX9_readFundings_100 : decode cX9_readFundings 100 = .ok (.aload_n 3, 1) := by decide +kernel
theorem dX9_readFundings_101 : decode cX9_readFundings 101 = .ok (.getfield 249, 3) := by decide +kernel
theorem dX9_readFundings_104 : decode cX9_readFundings 104 = .ok (.aload_n 3, 1) := by decide +kernel
theorem dX9_readFundings_105 : decode cX9_readFundings 105 = .ok (.getfield 253, 3) := by decide +kernel
theorem dX9_readFundings_108 : decode cX9_readFundings 108 = .ok (.aload_n 3, 1) := by decide +kernel
theorem dX9_readFundings_109 : decode cX9_readFundings 109 = .ok (.getfield 250, 3) := by decide +kernel
theorem dX9_readFundings_112 : decode cX9_readFundings 112 = .ok (.invokevirtual 103, 3) := by decide +kernel
theorem dX9_readFundings_115 : decode cX9_readFundings 115 = .ok (.iinc 2 1, 3) := by decide +kernel
theorem dX9_readFundings_118 : decode cX9_readFundings 118 = .ok (.goto (-87), 3) := by decide +kernel
theorem dX9_readFundings_121 : decode cX9_readFundings 121 = .ok (.aload_n 0, 1) := by decide +kernel
theorem dX9_readFundings_122 : decode cX9_readFundings 122 = .ok (.getfield 29, 3) := by decide +kernel
theorem dX9_readFundings_125 : decode cX9_readFundings 125 = .ok (.aload_n 0, 1) := by decide +kernel
theorem dX9_readFundings_126 : decode cX9_readFundings 126 = .ok (.getfield 16, 3) := by decide +kernel
theorem dX9_readFundings_129 : decode cX9_readFundings 129 = .ok (.invokevirtual 58, 3) := by decide +kernel
theorem dX9_readFundings_132 : decode cX9_readFundings 132 = .ok (.aload_n 0, 1) := by decide +kernel
theorem dX9_readFundings_133 : decode cX9_readFundings 133 = .ok (.getfield 36, 3) := by decide +kernel
theorem dX9_readFundings_136 : decode cX9_readFundings 136 = .ok (.getfield 239, 3) := by decide +kernel
theorem dX9_readFundings_139 : decode cX9_readFundings 139 = .ok (.ireturn, 1) := by decide +kernel
theorem dX9_undo_0 : decode cX9_undo 0 = .ok (.aload_n 0, 1) := by decide +kernel
theorem dX9_undo_1 : decode cX9_undo 1 = .ok (.getfield 29, 3) := by decide +kernel
theorem dX9_undo_4 : decode cX9_undo 4 = .ok (.getfield 256, 3) := by decide +kernel
theorem dX9_undo_7 : decode cX9_undo 7 = .ok (.ifCond .ne 6, 3) := by decide +kernel
theorem dX9_undo_10 : decode cX9_undo 10 = .ok (.bipush (-5), 2) := by decide +kernel
theorem dX9_undo_12 : decode cX9_undo 12 = .ok (.ireturn, 1) := by decide +kernel
theorem dX9_undo_13 : decode cX9_undo 13 = .ok (.aload_n 0, 1) := by decide +kernel
theorem dX9_undo_14 : decode cX9_undo 14 = .ok (.getfield 29, 3) := by decide +kernel
theorem dX9_undo_17 : decode cX9_undo 17 = .ok (.aload_n 0, 1) := by decide +kernel
theorem dX9_undo_18 : decode cX9_undo 18 = .ok (.getfield 10, 3) := by decide +kernel
theorem dX9_undo_21 : decode cX9_undo 21 = .ok (.invokevirtual 259, 3) := by decide +kernel
theorem dX9_undo_24 : decode cX9_undo 24 = .ok (.aload_n 0, 1) := by decide +kernel
theorem dX9_undo_25 : decode cX9_undo 25 = .ok (.getfield 29, 3) := by decide +kernel
theorem dX9_undo_28 : decode cX9_undo 28 = .ok (.getfield 256, 3) := by decide +kernel
theorem dX9_undo_31 : decode cX9_undo 31 = .ok (.ireturn, 1) := by decide +kernel
theorem dX9_keep_0 : decode cX9_keep 0 = .ok (.aload_n 0, 1) := by decide +kernel
theorem dX9_keep_1 : decode cX9_keep 1 = .ok (.getfield 19, 3) := by decide +kernel
theorem dX9_keep_4 : decode cX9_keep 4 = .ok (.aload_n 0, 1) := by decide +kernel
theorem dX9_keep_5 : decode cX9_keep 5 = .ok (.getfield 10, 3) := by decide +kernel
theorem dX9_keep_8 : decode cX9_keep 8 = .ok (.invokevirtual 236, 3) := by decide +kernel
theorem dX9_keep_11 : decode cX9_keep 11 = .ok (.aload_n 0, 1) := by decide +kernel
theorem dX9_keep_12 : decode cX9_keep 12 = .ok (.iconst 1, 1) := by decide +kernel
theorem dX9_keep_13 : decode cX9_keep 13 = .ok (.putfield 22, 3) := by decide +kernel
theorem dX9_keep_16 : decode cX9_keep 16 = .ok (.aload_n 0, 1) := by decide +kernel
theorem dX9_keep_17 : decode cX9_keep 17 = .ok (.getfield 10, 3) := by decide +kernel
theorem dX9_keep_20 : decode cX9_keep 20 = .ok (.getfield 262, 3) := by decide +kernel
theorem dX9_keep_23 : decode cX9_keep 23 = .ok (.ireturn, 1) := by decide +kernel
theorem dX9_restore_0 : decode cX9_restore 0 = .ok (.aload_n 0, 1) := by decide +kernel
theorem dX9_restore_1 : decode cX9_restore 1 = .ok (.getfield 22, 3) := by decide +kernel
theorem dX9_restore_4 : decode cX9_restore 4 = .ok (.ifCond .ne 6, 3) := by decide +kernel
theorem dX9_restore_7 : decode cX9_restore 7 = .ok (.bipush (-5), 2) := by decide +kernel
theorem dX9_restore_9 : decode cX9_restore 9 = .ok (.ireturn, 1) := by decide +kernel
theorem dX9_restore_10 : decode cX9_restore 10 = .ok (.aload_n 0, 1) := by decide +kernel
theorem dX9_restore_11 : decode cX9_restore 11 = .ok (.getfield 29, 3) := by decide +kernel
theorem dX9_restore_14 : decode cX9_restore 14 = .ok (.aload_n 0, 1) := by decide +kernel
theorem dX9_restore_15 : decode cX9_restore 15 = .ok (.getfield 10, 3) := by decide +kernel
theorem dX9_restore_18 : decode cX9_restore 18 = .ok (.invokevirtual 58, 3) := by decide +kernel
theorem dX9_restore_21 : decode cX9_restore 21 = .ok (.aload_n 0, 1) := by decide +kernel
theorem dX9_restore_22 : decode cX9_restore 22 = .ok (.getfield 10, 3) := by decide +kernel
theorem dX9_restore_25 : decode cX9_restore 25 = .ok (.aload_n 0, 1) := by decide +kernel
theorem dX9_restore_26 : decode cX9_restore 26 = .ok (.getfield 19, 3) := by decide +kernel
theorem dX9_restore_29 : decode cX9_restore 29 = .ok (.invokevirtual 236, 3) := by decide +kernel
theorem dX9_restore_32 : decode cX9_restore 32 = .ok (.aload_n 0, 1) := by decide +kernel
theorem dX9_restore_33 : decode cX9_restore 33 = .ok (.getfield 10, 3) := by decide +kernel
theorem dX9_restore_36 : decode cX9_restore 36 = .ok (.getfield 262, 3) := by decide +kernel
theorem dX9_restore_39 : decode cX9_restore 39 = .ok (.ireturn, 1) := by decide +kernel
theorem dX9_investor_0 : decode cX9_investor 0 = .ok (.aload_n 0, 1) := by decide +kernel
theorem dX9_investor_1 : decode cX9_investor 1 = .ok (.getfield 10, 3) := by decide +kernel
theorem dX9_investor_4 : decode cX9_investor 4 = .ok (.iload_n 1, 1) := by decide +kernel
theorem dX9_investor_5 : decode cX9_investor 5 = .ok (.invokevirtual 72, 3) := by decide +kernel
theorem dX9_investor_8 : decode cX9_investor 8 = .ok (.ifCond .ne 5, 3) := by decide +kernel
theorem dX9_investor_11 : decode cX9_investor 11 = .ok (.iconst (-1), 1) := by decide +kernel
theorem dX9_investor_12 : decode cX9_investor 12 = .ok (.ireturn, 1) := by decide +kernel
theorem dX9_investor_13 : decode cX9_investor 13 = .ok (.aload_n 0, 1) := by decide +kernel
theorem dX9_investor_14 : decode cX9_investor 14 = .ok (.getfield 10, 3) := by decide +kernel
theorem dX9_investor_17 : decode cX9_investor 17 = .ok (.getfield 62, 3) := by decide +kernel
theorem dX9_investor_20 : decode cX9_investor 20 = .ok (.iload_n 1, 1) := by decide +kernel
theorem dX9_investor_21 : decode cX9_investor 21 = .ok (.aaload, 1) := by decide +kernel
theorem dX9_investor_22 : decode cX9_investor 22 = .ok (.astore_n 3, 1) := by decide +kernel
theorem dX9_investor_23 : decode cX9_investor 23 = .ok (.iload_n 2, 1) := by decide +kernel
theorem dX9_investor_24 : decode cX9_investor 24 = .ok (.tableswitch 82 0 5 #[40, 45, 54, 63, 72, 77], 40) := by decide +kernel
theorem dX9_investor_64 : decode cX9_investor 64 = .ok (.aload_n 3, 1) := by decide +kernel
theorem dX9_investor_65 : decode cX9_investor 65 = .ok (.getfield 77, 3) := by decide +kernel
theorem dX9_investor_68 : decode cX9_investor 68 = .ok (.ireturn, 1) := by decide +kernel
theorem dX9_investor_69 : decode cX9_investor 69 = .ok (.aload_n 0, 1) := by decide +kernel
theorem dX9_investor_70 : decode cX9_investor 70 = .ok (.getfield 10, 3) := by decide +kernel
theorem dX9_investor_73 : decode cX9_investor 73 = .ok (.iload_n 1, 1) := by decide +kernel
theorem dX9_investor_74 : decode cX9_investor 74 = .ok (.invokevirtual 265, 3) := by decide +kernel
theorem dX9_investor_77 : decode cX9_investor 77 = .ok (.ireturn, 1) := by decide +kernel
theorem dX9_investor_78 : decode cX9_investor 78 = .ok (.aload_n 0, 1) := by decide +kernel
theorem dX9_investor_79 : decode cX9_investor 79 = .ok (.getfield 10, 3) := by decide +kernel
theorem dX9_investor_82 : decode cX9_investor 82 = .ok (.iload_n 1, 1) := by decide +kernel
theorem dX9_investor_83 : decode cX9_investor 83 = .ok (.invokevirtual 268, 3) := by decide +kernel
theorem dX9_investor_86 : decode cX9_investor 86 = .ok (.ireturn, 1) := by decide +kernel
theorem dX9_investor_87 : decode cX9_investor 87 = .ok (.aload_n 0, 1) := by decide +kernel
theorem dX9_investor_88 : decode cX9_investor 88 = .ok (.getfield 10, 3) := by decide +kernel
theorem dX9_investor_91 : decode cX9_investor 91 = .ok (.iload_n 1, 1) := by decide +kernel
theorem dX9_investor_92 : decode cX9_investor 92 = .ok (.invokevirtual 271, 3) := by decide +kernel
theorem dX9_investor_95 : decode cX9_investor 95 = .ok (.ireturn, 1) := by decide +kernel
theorem dX9_investor_96 : decode cX9_investor 96 = .ok (.aload_n 3, 1) := by decide +kernel
theorem dX9_investor_97 : decode cX9_investor 97 = .ok (.getfield 274, 3) := by decide +kernel
theorem dX9_investor_100 : decode cX9_investor 100 = .ok (.ireturn, 1) := by decide +kernel
theorem dX9_investor_101 : decode cX9_investor 101 = .ok (.aload_n 3, 1) := by decide +kernel
theorem dX9_investor_102 : decode cX9_investor 102 = .ok (.getfield 277, 3) := by decide +kernel
theorem dX9_investor_105 : decode cX9_investor 105 = .ok (.ireturn, 1) := by decide +kernel
theorem dX9_investor_106 : decode cX9_investor 106 = .ok (.bipush (-2), 2) := by decide +kernel
theorem dX9_investor_108 : decode cX9_investor 108 = .ok (.ireturn, 1) := by decide +kernel
theorem dX9_loan_0 : decode cX9_loan 0 = .ok (.aload_n 0, 1) := by decide +kernel
theorem dX9_loan_1 : decode cX9_loan 1 = .ok (.getfield 10, 3) := by decide +kernel
theorem dX9_loan_4 : decode cX9_loan 4 = .ok (.iload_n 1, 1) := by decide +kernel
theorem dX9_loan_5 : decode cX9_loan 5 = .ok (.invokevirtual 111, 3) := by decide +kernel
theorem dX9_loan_8 : decode cX9_loan 8 = .ok (.ifCond .ne 5, 3) := by decide +kernel
theorem dX9_loan_11 : decode cX9_loan 11 = .ok (.iconst (-1), 1) := by decide +kernel
theorem dX9_loan_12 : decode cX9_loan 12 = .ok (.ireturn, 1) := by decide +kernel
theorem dX9_loan_13 : decode cX9_loan 13 = .ok (.aload_n 0, 1) := by decide +kernel
theorem dX9_loan_14 : decode cX9_loan 14 = .ok (.getfield 10, 3) := by decide +kernel
theorem dX9_loan_17 : decode cX9_loan 17 = .ok (.getfield 90, 3) := by decide +kernel
theorem dX9_loan_20 : decode cX9_loan 20 = .ok (.iload_n 1, 1) := by decide +kernel
theorem dX9_loan_21 : decode cX9_loan 21 = .ok (.aaload, 1) := by decide +kernel
theorem dX9_loan_22 : decode cX9_loan 22 = .ok (.astore_n 3, 1) := by decide +kernel
theorem dX9_loan_23 : decode cX9_loan 23 = .ok (.iload_n 2, 1) := by decide +kernel
theorem dX9_loan_24 : decode cX9_loan 24 = .ok (.tableswitch 151 0 12 #[68, 73, 78, 83, 88, 93, 98, 103, 108, 113, 122, 131, 141], 68) := by decide +kernel
theorem dX9_loan_92 : decode cX9_loan 92 = .ok (.aload_n 3, 1) := by decide +kernel
theorem dX9_loan_93 : decode cX9_loan 93 = .ok (.getfield 114, 3) := by decide +kernel
theorem dX9_loan_96 : decode cX9_loan 96 = .ok (.ireturn, 1) := by decide +kernel
theorem dX9_loan_97 : decode cX9_loan 97 = .ok (.aload_n 3, 1) := by decide +kernel
theorem dX9_loan_98 : decode cX9_loan 98 = .ok (.getfield 280, 3) := by decide +kernel
theorem dX9_loan_101 : decode cX9_loan 101 = .ok (.ireturn, 1) := by decide +kernel
theorem dX9_loan_102 : decode cX9_loan 102 = .ok (.aload_n 3, 1) := by decide +kernel
theorem dX9_loan_103 : decode cX9_loan 103 = .ok (.getfield 150, 3) := by decide +kernel
theorem dX9_loan_106 : decode cX9_loan 106 = .ok (.ireturn, 1) := by decide +kernel
theorem dX9_loan_107 : decode cX9_loan 107 = .ok (.aload_n 3, 1) := by decide +kernel
theorem dX9_loan_108 : decode cX9_loan 108 = .ok (.getfield 165, 3) := by decide +kernel
theorem dX9_loan_111 : decode cX9_loan 111 = .ok (.ireturn, 1) := by decide +kernel
theorem dX9_loan_112 : decode cX9_loan 112 = .ok (.aload_n 3, 1) := by decide +kernel
theorem dX9_loan_113 : decode cX9_loan 113 = .ok (.getfield 156, 3) := by decide +kernel
theorem dX9_loan_116 : decode cX9_loan 116 = .ok (.ireturn, 1) := by decide +kernel
theorem dX9_loan_117 : decode cX9_loan 117 = .ok (.aload_n 3, 1) := by decide +kernel
theorem dX9_loan_118 : decode cX9_loan 118 = .ok (.getfield 159, 3) := by decide +kernel
theorem dX9_loan_121 : decode cX9_loan 121 = .ok (.ireturn, 1) := by decide +kernel
theorem dX9_loan_122 : decode cX9_loan 122 = .ok (.aload_n 3, 1) := by decide +kernel
theorem dX9_loan_123 : decode cX9_loan 123 = .ok (.getfield 153, 3) := by decide +kernel
theorem dX9_loan_126 : decode cX9_loan 126 = .ok (.ireturn, 1) := by decide +kernel
theorem dX9_loan_127 : decode cX9_loan 127 = .ok (.aload_n 3, 1) := by decide +kernel
theorem dX9_loan_128 : decode cX9_loan 128 = .ok (.getfield 190, 3) := by decide +kernel
theorem dX9_loan_131 : decode cX9_loan 131 = .ok (.ireturn, 1) := by decide +kernel
theorem dX9_loan_132 : decode cX9_loan 132 = .ok (.aload_n 3, 1) := by decide +kernel
theorem dX9_loan_133 : decode cX9_loan 133 = .ok (.getfield 187, 3) := by decide +kernel
theorem dX9_loan_136 : decode cX9_loan 136 = .ok (.ireturn, 1) := by decide +kernel
theorem dX9_loan_137 : decode cX9_loan 137 = .ok (.aload_n 0, 1) := by decide +kernel
theorem dX9_loan_138 : decode cX9_loan 138 = .ok (.getfield 10, 3) := by decide +kernel
theorem dX9_loan_141 : decode cX9_loan 141 = .ok (.iload_n 1, 1) := by decide +kernel
theorem dX9_loan_142 : decode cX9_loan 142 = .ok (.invokevirtual 107, 3) := by decide +kernel
theorem dX9_loan_145 : decode cX9_loan 145 = .ok (.ireturn, 1) := by decide +kernel
theorem dX9_loan_146 : decode cX9_loan 146 = .ok (.aload_n 0, 1) := by decide +kernel
theorem dX9_loan_147 : decode cX9_loan 147 = .ok (.getfield 10, 3) := by decide +kernel
theorem dX9_loan_150 : decode cX9_loan 150 = .ok (.iload_n 1, 1) := by decide +kernel
theorem dX9_loan_151 : decode cX9_loan 151 = .ok (.invokevirtual 283, 3) := by decide +kernel
theorem dX9_loan_154 : decode cX9_loan 154 = .ok (.ireturn, 1) := by decide +kernel
theorem dX9_loan_155 : decode cX9_loan 155 = .ok (.aload_n 0, 1) := by decide +kernel
theorem dX9_loan_156 : decode cX9_loan 156 = .ok (.getfield 10, 3) := by decide +kernel
theorem dX9_loan_159 : decode cX9_loan 159 = .ok (.iload_n 1, 1) := by decide +kernel
theorem dX9_loan_160 : decode cX9_loan 160 = .ok (.iconst 0, 1) := by decide +kernel
theorem dX9_loan_161 : decode cX9_loan 161 = .ok (.invokevirtual 117, 3) := by decide +kernel
theorem dX9_loan_164 : decode cX9_loan 164 = .ok (.ireturn, 1) := by decide +kernel
theorem dX9_loan_165 : decode cX9_loan 165 = .ok (.aload_n 0, 1) := by decide +kernel
theorem dX9_loan_166 : decode cX9_loan 166 = .ok (.getfield 10, 3) := by decide +kernel
theorem dX9_loan_169 : decode cX9_loan 169 = .ok (.iload_n 1, 1) := by decide +kernel
theorem dX9_loan_170 : decode cX9_loan 170 = .ok (.iconst 1, 1) := by decide +kernel
theorem dX9_loan_171 : decode cX9_loan 171 = .ok (.invokevirtual 117, 3) := by decide +kernel
theorem dX9_loan_174 : decode cX9_loan 174 = .ok (.ireturn, 1) := by decide +kernel
theorem dX9_loan_175 : decode cX9_loan 175 = .ok (.bipush (-2), 2) := by decide +kernel
theorem dX9_loan_177 : decode cX9_loan 177 = .ok (.ireturn, 1) := by decide +kernel
theorem dX9_note_0 : decode cX9_note 0 = .ok (.aload_n 0, 1) := by decide +kernel
theorem dX9_note_1 : decode cX9_note 1 = .ok (.getfield 10, 3) := by decide +kernel
theorem dX9_note_4 : decode cX9_note 4 = .ok (.iload_n 1, 1) := by decide +kernel
theorem dX9_note_5 : decode cX9_note 5 = .ok (.invokevirtual 193, 3) := by decide +kernel
theorem dX9_note_8 : decode cX9_note 8 = .ok (.ifCond .ne 5, 3) := by decide +kernel
theorem dX9_note_11 : decode cX9_note 11 = .ok (.iconst (-1), 1) := by decide +kernel
theorem dX9_note_12 : decode cX9_note 12 = .ok (.ireturn, 1) := by decide +kernel
theorem dX9_note_13 : decode cX9_note 13 = .ok (.aload_n 0, 1) := by decide +kernel
theorem dX9_note_14 : decode cX9_note 14 = .ok (.getfield 10, 3) := by decide +kernel
theorem dX9_note_17 : decode cX9_note 17 = .ok (.getfield 196, 3) := by decide +kernel
theorem dX9_note_20 : decode cX9_note 20 = .ok (.iload_n 1, 1) := by decide +kernel
theorem dX9_note_21 : decode cX9_note 21 = .ok (.aaload, 1) := by decide +kernel
theorem dX9_note_22 : decode cX9_note 22 = .ok (.astore_n 3, 1) := by decide +kernel
theorem dX9_note_23 : decode cX9_note 23 = .ok (.iload_n 2, 1) := by decide +kernel
theorem dX9_note_24 : decode cX9_note 24 = .ok (.tableswitch 79 0 6 #[44, 49, 54, 59, 64, 69, 74], 44) := by decide +kernel
theorem dX9_note_68 : decode cX9_note 68 = .ok (.aload_n 3, 1) := by decide +kernel
theorem dX9_note_69 : decode cX9_note 69 = .ok (.getfield 200, 3) := by decide +kernel
theorem dX9_note_72 : decode cX9_note 72 = .ok (.ireturn, 1) := by decide +kernel
theorem dX9_note_73 : decode cX9_note 73 = .ok (.aload_n 3, 1) := by decide +kernel
theorem dX9_note_74 : decode cX9_note 74 = .ok (.getfield 205, 3) := by decide +kernel
theorem dX9_note_77 : decode cX9_note 77 = .ok (.ireturn, 1) := by decide +kernel
theorem dX9_note_78 : decode cX9_note 78 = .ok (.aload_n 3, 1) := by decide +kernel
theorem dX9_note_79 : decode cX9_note 79 = .ok (.getfield 286, 3) := by decide +kernel
theorem dX9_note_82 : decode cX9_note 82 = .ok (.ireturn, 1) := by decide +kernel
theorem dX9_note_83 : decode cX9_note 83 = .ok (.aload_n 3, 1) := by decide +kernel
theorem dX9_note_84 : decode cX9_note 84 = .ok (.getfield 215, 3) := by decide +kernel
theorem dX9_note_87 : decode cX9_note 87 = .ok (.ireturn, 1) := by decide +kernel
theorem dX9_note_88 : decode cX9_note 88 = .ok (.aload_n 3, 1) := by decide +kernel
theorem dX9_note_89 : decode cX9_note 89 = .ok (.getfield 287, 3) := by decide +kernel
theorem dX9_note_92 : decode cX9_note 92 = .ok (.ireturn, 1) := by decide +kernel
theorem dX9_note_93 : decode cX9_note 93 = .ok (.aload_n 3, 1) := by decide +kernel
theorem dX9_note_94 : decode cX9_note 94 = .ok (.getfield 290, 3) := by decide +kernel
theorem dX9_note_97 : decode cX9_note 97 = .ok (.ireturn, 1) := by decide +kernel
theorem dX9_note_98 : decode cX9_note 98 = .ok (.aload_n 3, 1) := by decide +kernel
theorem dX9_note_99 : decode cX9_note 99 = .ok (.getfield 291, 3) := by decide +kernel
theorem dX9_note_102 : decode cX9_note 102 = .ok (.ireturn, 1) := by decide +kernel
theorem dX9_note_103 : decode cX9_note 103 = .ok (.bipush (-2), 2) := by decide +kernel
theorem dX9_note_105 : decode cX9_note 105 = .ok (.ireturn, 1) := by decide +kernel
theorem dX9_split_0 : decode cX9_split 0 = .ok (.aload_n 0, 1) := by decide +kernel
theorem dX9_split_1 : decode cX9_split 1 = .ok (.getfield 10, 3) := by decide +kernel
theorem dX9_split_4 : decode cX9_split 4 = .ok (.iload_n 1, 1) := by decide +kernel
theorem dX9_split_5 : decode cX9_split 5 = .ok (.invokevirtual 111, 3) := by decide +kernel
theorem dX9_split_8 : decode cX9_split 8 = .ok (.ifCond .ne 5, 3) := by decide +kernel
theorem dX9_split_11 : decode cX9_split 11 = .ok (.iconst (-1), 1) := by decide +kernel
theorem dX9_split_12 : decode cX9_split 12 = .ok (.ireturn, 1) := by decide +kernel
theorem dX9_split_13 : decode cX9_split 13 = .ok (.iload_n 2, 1) := by decide +kernel
theorem dX9_split_14 : decode cX9_split 14 = .ok (.invokestatic 135, 3) := by decide +kernel
theorem dX9_split_17 : decode cX9_split 17 = .ok (.ifCond .eq 12, 3) := by decide +kernel
theorem dX9_split_20 : decode cX9_split 20 = .ok (.iload_n 3, 1) := by decide +kernel
theorem dX9_split_21 : decode cX9_split 21 = .ok (.ifCond .lt 8, 3) := by decide +kernel
theorem dX9_split_24 : decode cX9_split 24 = .ok (.iload_n 3, 1) := by decide +kernel
theorem dX9_split_25 : decode cX9_split 25 = .ok (.iconst 5, 1) := by decide +kernel
theorem dX9_split_26 : decode cX9_split 26 = .ok (.if_icmp .le 6, 3) := by decide +kernel
theorem dX9_split_29 : decode cX9_split 29 = .ok (.bipush (-2), 2) := by decide +kernel
theorem dX9_split_31 : decode cX9_split 31 = .ok (.ireturn, 1) := by decide +kernel
theorem dX9_split_32 : decode cX9_split 32 = .ok (.aload_n 0, 1) := by decide +kernel
theorem dX9_split_33 : decode cX9_split 33 = .ok (.getfield 43, 3) := by decide +kernel
theorem dX9_split_36 : decode cX9_split 36 = .ok (.aload_n 0, 1) := by decide +kernel
theorem dX9_split_37 : decode cX9_split 37 = .ok (.getfield 10, 3) := by decide +kernel
theorem dX9_split_40 : decode cX9_split 40 = .ok (.iload_n 1, 1) := by decide +kernel
theorem dX9_split_41 : decode cX9_split 41 = .ok (.iload_n 2, 1) := by decide +kernel
theorem dX9_split_42 : decode cX9_split 42 = .ok (.invokevirtual 138, 3) := by decide +kernel
theorem dX9_split_45 : decode cX9_split 45 = .ok (.ifCond .ne 6, 3) := by decide +kernel
theorem dX9_split_48 : decode cX9_split 48 = .ok (.bipush (-4), 2) := by decide +kernel
theorem dX9_split_50 : decode cX9_split 50 = .ok (.ireturn, 1) := by decide +kernel
theorem dX9_split_51 : decode cX9_split 51 = .ok (.iload_n 3, 1) := by decide +kernel
theorem dX9_split_52 : decode cX9_split 52 = .ok (.tableswitch 76 0 4 #[36, 44, 52, 60, 68], 36) := by decide +kernel
theorem dX9_split_88 : decode cX9_split 88 = .ok (.aload_n 0, 1) := by decide +kernel
theorem dX9_split_89 : decode cX9_split 89 = .ok (.getfield 43, 3) := by decide +kernel
theorem dX9_split_92 : decode cX9_split 92 = .ok (.getfield 294, 3) := by decide +kernel
theorem dX9_split_95 : decode cX9_split 95 = .ok (.ireturn, 1) := by decide +kernel
theorem dX9_split_96 : decode cX9_split 96 = .ok (.aload_n 0, 1) := by decide +kernel
theorem dX9_split_97 : decode cX9_split 97 = .ok (.getfield 43, 3) := by decide +kernel
theorem dX9_split_100 : decode cX9_split 100 = .ok (.getfield 297, 3) := by decide +kernel
theorem dX9_split_103 : decode cX9_split 103 = .ok (.ireturn, 1) := by decide +kernel
theorem dX9_split_104 : decode cX9_split 104 = .ok (.aload_n 0, 1) := by decide +kernel
theorem dX9_split_105 : decode cX9_split 105 = .ok (.getfield 43, 3) := by decide +kernel
theorem dX9_split_108 : decode cX9_split 108 = .ok (.getfield 298, 3) := by decide +kernel
theorem dX9_split_111 : decode cX9_split 111 = .ok (.ireturn, 1) := by decide +kernel
theorem dX9_split_112 : decode cX9_split 112 = .ok (.aload_n 0, 1) := by decide +kernel
theorem dX9_split_113 : decode cX9_split 113 = .ok (.getfield 43, 3) := by decide +kernel
theorem dX9_split_116 : decode cX9_split 116 = .ok (.getfield 301, 3) := by decide +kernel
theorem dX9_split_119 : decode cX9_split 119 = .ok (.ireturn, 1) := by decide +kernel
theorem dX9_split_120 : decode cX9_split 120 = .ok (.aload_n 0, 1) := by decide +kernel
theorem dX9_split_121 : decode cX9_split 121 = .ok (.getfield 43, 3) := by decide +kernel
theorem dX9_split_124 : decode cX9_split 124 = .ok (.getfield 302, 3) := by decide +kernel
theorem dX9_split_127 : decode cX9_split 127 = .ok (.ireturn, 1) := by decide +kernel
theorem dX9_split_128 : decode cX9_split 128 = .ok (.aload_n 0, 1) := by decide +kernel
theorem dX9_split_129 : decode cX9_split 129 = .ok (.getfield 43, 3) := by decide +kernel
theorem dX9_split_132 : decode cX9_split 132 = .ok (.getfield 305, 3) := by decide +kernel
theorem dX9_split_135 : decode cX9_split 135 = .ok (.ireturn, 1) := by decide +kernel
theorem dX9_toRepay_0 : decode cX9_toRepay 0 = .ok (.aload_n 0, 1) := by decide +kernel
theorem dX9_toRepay_1 : decode cX9_toRepay 1 = .ok (.getfield 10, 3) := by decide +kernel
theorem dX9_toRepay_4 : decode cX9_toRepay 4 = .ok (.iload_n 1, 1) := by decide +kernel
theorem dX9_toRepay_5 : decode cX9_toRepay 5 = .ok (.invokevirtual 111, 3) := by decide +kernel
theorem dX9_toRepay_8 : decode cX9_toRepay 8 = .ok (.ifCond .ne 5, 3) := by decide +kernel
theorem dX9_toRepay_11 : decode cX9_toRepay 11 = .ok (.iconst (-1), 1) := by decide +kernel
theorem dX9_toRepay_12 : decode cX9_toRepay 12 = .ok (.ireturn, 1) := by decide +kernel
theorem dX9_toRepay_13 : decode cX9_toRepay 13 = .ok (.aload_n 0, 1) := by decide +kernel
theorem dX9_toRepay_14 : decode cX9_toRepay 14 = .ok (.getfield 10, 3) := by decide +kernel
theorem dX9_toRepay_17 : decode cX9_toRepay 17 = .ok (.iload_n 1, 1) := by decide +kernel
theorem dX9_toRepay_18 : decode cX9_toRepay 18 = .ok (.invokevirtual 171, 3) := by decide +kernel
theorem dX9_toRepay_21 : decode cX9_toRepay 21 = .ok (.ifCond .ne 6, 3) := by decide +kernel
theorem dX9_toRepay_24 : decode cX9_toRepay 24 = .ok (.bipush (-4), 2) := by decide +kernel
theorem dX9_toRepay_26 : decode cX9_toRepay 26 = .ok (.ireturn, 1) := by decide +kernel
theorem dX9_toRepay_27 : decode cX9_toRepay 27 = .ok (.aload_n 0, 1) := by decide +kernel
theorem dX9_toRepay_28 : decode cX9_toRepay 28 = .ok (.getfield 10, 3) := by decide +kernel
theorem dX9_toRepay_31 : decode cX9_toRepay 31 = .ok (.getfield 90, 3) := by decide +kernel
theorem dX9_toRepay_34 : decode cX9_toRepay 34 = .ok (.iload_n 1, 1) := by decide +kernel
theorem dX9_toRepay_35 : decode cX9_toRepay 35 = .ok (.aaload, 1) := by decide +kernel
theorem dX9_toRepay_36 : decode cX9_toRepay 36 = .ok (.astore_n 2, 1) := by decide +kernel
theorem dX9_toRepay_37 : decode cX9_toRepay 37 = .ok (.aload_n 2, 1) := by decide +kernel
theorem dX9_toRepay_38 : decode cX9_toRepay 38 = .ok (.getfield 150, 3) := by decide +kernel
theorem dX9_toRepay_41 : decode cX9_toRepay 41 = .ok (.i2l, 1) := by decide +kernel
theorem dX9_toRepay_42 : decode cX9_toRepay 42 = .ok (.aload_n 2, 1) := by decide +kernel
theorem dX9_toRepay_43 : decode cX9_toRepay 43 = .ok (.getfield 156, 3) := by decide +kernel
theorem dX9_toRepay_46 : decode cX9_toRepay 46 = .ok (.i2l, 1) := by decide +kernel
theorem dX9_toRepay_47 : decode cX9_toRepay 47 = .ok (.ladd, 1) := by decide +kernel
theorem dX9_toRepay_48 : decode cX9_toRepay 48 = .ok (.lstore_n 3, 1) := by decide +kernel
theorem dX9_toRepay_49 : decode cX9_toRepay 49 = .ok (.sipush 1000, 3) := by decide +kernel
theorem dX9_toRepay_52 : decode cX9_toRepay 52 = .ok (.aload_n 2, 1) := by decide +kernel
theorem dX9_toRepay_53 : decode cX9_toRepay 53 = .ok (.getfield 190, 3) := by decide +kernel
theorem dX9_toRepay_56 : decode cX9_toRepay 56 = .ok (.invokestatic 308, 3) := by decide +kernel
theorem dX9_toRepay_59 : decode cX9_toRepay 59 = .ok (.isub, 1) := by decide +kernel
theorem dX9_toRepay_60 : decode cX9_toRepay 60 = .ok (.istore 5, 2) := by decide +kernel
theorem dX9_toRepay_62 : decode cX9_toRepay 62 = .ok (.iload 5, 2) := by decide +kernel
theorem dX9_toRepay_64 : decode cX9_toRepay 64 = .ok (.ifCond .gt 6, 3) := by decide +kernel
theorem dX9_toRepay_67 : decode cX9_toRepay 67 = .ok (.bipush (-4), 2) := by decide +kernel
theorem dX9_toRepay_69 : decode cX9_toRepay 69 = .ok (.ireturn, 1) := by decide +kernel
theorem dX9_toRepay_70 : decode cX9_toRepay 70 = .ok (.lload_n 3, 1) := by decide +kernel
theorem dX9_toRepay_71 : decode cX9_toRepay 71 = .ok (.lconst 1, 1) := by decide +kernel
theorem dX9_toRepay_72 : decode cX9_toRepay 72 = .ok (.lsub, 1) := by decide +kernel
theorem dX9_toRepay_73 : decode cX9_toRepay 73 = .ok (.ldc2_w 311, 3) := by decide +kernel
theorem dX9_toRepay_76 : decode cX9_toRepay 76 = .ok (.lmul, 1) := by decide +kernel
theorem dX9_toRepay_77 : decode cX9_toRepay 77 = .ok (.iload 5, 2) := by decide +kernel
theorem dX9_toRepay_79 : decode cX9_toRepay 79 = .ok (.i2l, 1) := by decide +kernel
theorem dX9_toRepay_80 : decode cX9_toRepay 80 = .ok (.ldiv, 1) := by decide +kernel
theorem dX9_toRepay_81 : decode cX9_toRepay 81 = .ok (.l2i, 1) := by decide +kernel
theorem dX9_toRepay_82 : decode cX9_toRepay 82 = .ok (.iconst 1, 1) := by decide +kernel
theorem dX9_toRepay_83 : decode cX9_toRepay 83 = .ok (.iadd, 1) := by decide +kernel
theorem dX9_toRepay_84 : decode cX9_toRepay 84 = .ok (.ireturn, 1) := by decide +kernel
theorem dX9_servicer_0 : decode cX9_servicer 0 = .ok (.iload_n 1, 1) := by decide +kernel
theorem dX9_servicer_1 : decode cX9_servicer 1 = .ok (.invokestatic 184, 3) := by decide +kernel
theorem dX9_servicer_4 : decode cX9_servicer 4 = .ok (.ifCond .ne 5, 3) := by decide +kernel
theorem dX9_servicer_7 : decode cX9_servicer 7 = .ok (.iconst (-1), 1) := by decide +kernel
theorem dX9_servicer_8 : decode cX9_servicer 8 = .ok (.ireturn, 1) := by decide +kernel
theorem dX9_servicer_9 : decode cX9_servicer 9 = .ok (.iload_n 2, 1) := by decide +kernel
theorem dX9_servicer_10 : decode cX9_servicer 10 = .ok (.tableswitch 51 0 2 #[26, 32, 42], 26) := by decide +kernel
theorem dX9_servicer_36 : decode cX9_servicer 36 = .ok (.getstatic 313, 3) := by decide +kernel
theorem dX9_servicer_39 : decode cX9_servicer 39 = .ok (.iload_n 1, 1) := by decide +kernel
theorem dX9_servicer_40 : decode cX9_servicer 40 = .ok (.iaload, 1) := by decide +kernel
theorem dX9_servicer_41 : decode cX9_servicer 41 = .ok (.ireturn, 1) := by decide +kernel
theorem dX9_servicer_42 : decode cX9_servicer 42 = .ok (.aload_n 0, 1) := by decide +kernel
theorem dX9_servicer_43 : decode cX9_servicer 43 = .ok (.getfield 10, 3) := by decide +kernel
theorem dX9_servicer_46 : decode cX9_servicer 46 = .ok (.getfield 317, 3) := by decide +kernel
theorem dX9_servicer_49 : decode cX9_servicer 49 = .ok (.iload_n 1, 1) := by decide +kernel
theorem dX9_servicer_50 : decode cX9_servicer 50 = .ok (.iaload, 1) := by decide +kernel
theorem dX9_servicer_51 : decode cX9_servicer 51 = .ok (.ireturn, 1) := by decide +kernel
theorem dX9_servicer_52 : decode cX9_servicer 52 = .ok (.aload_n 0, 1) := by decide +kernel
theorem dX9_servicer_53 : decode cX9_servicer 53 = .ok (.getfield 10, 3) := by decide +kernel
theorem dX9_servicer_56 : decode cX9_servicer 56 = .ok (.iload_n 1, 1) := by decide +kernel
theorem dX9_servicer_57 : decode cX9_servicer 57 = .ok (.invokevirtual 320, 3) := by decide +kernel
theorem dX9_servicer_60 : decode cX9_servicer 60 = .ok (.ireturn, 1) := by decide +kernel
theorem dX9_servicer_61 : decode cX9_servicer 61 = .ok (.bipush (-2), 2) := by decide +kernel
theorem dX9_servicer_63 : decode cX9_servicer 63 = .ok (.ireturn, 1) := by decide +kernel
theorem dX9_count_0 : decode cX9_count 0 = .ok (.iload_n 1, 1) := by decide +kernel
theorem dX9_count_1 : decode cX9_count 1 = .ok (.iconst 3, 1) := by decide +kernel
theorem dX9_count_2 : decode cX9_count 2 = .ok (.if_icmp .lt 20, 3) := by decide +kernel
theorem dX9_count_5 : decode cX9_count 5 = .ok (.iload_n 1, 1) := by decide +kernel
theorem dX9_count_6 : decode cX9_count 6 = .ok (.bipush 7, 2) := by decide +kernel
theorem dX9_count_8 : decode cX9_count 8 = .ok (.if_icmp .gt 14, 3) := by decide +kernel
theorem dX9_count_11 : decode cX9_count 11 = .ok (.aload_n 0, 1) := by decide +kernel
theorem dX9_count_12 : decode cX9_count 12 = .ok (.getfield 10, 3) := by decide +kernel
theorem dX9_count_15 : decode cX9_count 15 = .ok (.iload_n 1, 1) := by decide +kernel
theorem dX9_count_16 : decode cX9_count 16 = .ok (.iconst 3, 1) := by decide +kernel
theorem dX9_count_17 : decode cX9_count 17 = .ok (.isub, 1) := by decide +kernel
theorem dX9_count_18 : decode cX9_count 18 = .ok (.invokevirtual 323, 3) := by decide +kernel
theorem dX9_count_21 : decode cX9_count 21 = .ok (.ireturn, 1) := by decide +kernel
theorem dX9_count_22 : decode cX9_count 22 = .ok (.iload_n 1, 1) := by decide +kernel
theorem dX9_count_23 : decode cX9_count 23 = .ok (.tableswitch 189 0 17 #[85, 93, 101, 189, 189, 189, 189, 189, 109, 117, 125, 133, 141, 149, 157, 165, 173, 181], 85) := by decide +kernel
theorem dX9_count_108 : decode cX9_count 108 = .ok (.aload_n 0, 1) := by decide +kernel
theorem dX9_count_109 : decode cX9_count 109 = .ok (.getfield 10, 3) := by decide +kernel
theorem dX9_count_112 : decode cX9_count 112 = .ok (.getfield 216, 3) := by decide +kernel
theorem dX9_count_115 : decode cX9_count 115 = .ok (.ireturn, 1) := by decide +kernel
theorem dX9_count_116 : decode cX9_count 116 = .ok (.aload_n 0, 1) := by decide +kernel
theorem dX9_count_117 : decode cX9_count 117 = .ok (.getfield 10, 3) := by decide +kernel
theorem dX9_count_120 : decode cX9_count 120 = .ok (.getfield 54, 3) := by decide +kernel
theorem dX9_count_123 : decode cX9_count 123 = .ok (.ireturn, 1) := by decide +kernel
theorem dX9_count_124 : decode cX9_count 124 = .ok (.aload_n 0, 1) := by decide +kernel
theorem dX9_count_125 : decode cX9_count 125 = .ok (.getfield 10, 3) := by decide +kernel
theorem dX9_count_128 : decode cX9_count 128 = .ok (.getfield 87, 3) := by decide +kernel
theorem dX9_count_131 : decode cX9_count 131 = .ok (.ireturn, 1) := by decide +kernel
theorem dX9_count_132 : decode cX9_count 132 = .ok (.aload_n 0, 1) := by decide +kernel
theorem dX9_count_133 : decode cX9_count 133 = .ok (.getfield 10, 3) := by decide +kernel
theorem dX9_count_136 : decode cX9_count 136 = .ok (.getfield 262, 3) := by decide +kernel
theorem dX9_count_139 : decode cX9_count 139 = .ok (.ireturn, 1) := by decide +kernel
theorem dX9_count_140 : decode cX9_count 140 = .ok (.aload_n 0, 1) := by decide +kernel
theorem dX9_count_141 : decode cX9_count 141 = .ok (.getfield 10, 3) := by decide +kernel
theorem dX9_count_144 : decode cX9_count 144 = .ok (.getfield 178, 3) := by decide +kernel
theorem dX9_count_147 : decode cX9_count 147 = .ok (.ireturn, 1) := by decide +kernel
theorem dX9_count_148 : decode cX9_count 148 = .ok (.aload_n 0, 1) := by decide +kernel
theorem dX9_count_149 : decode cX9_count 149 = .ok (.getfield 10, 3) := by decide +kernel
theorem dX9_count_152 : decode cX9_count 152 = .ok (.getfield 80, 3) := by decide +kernel
theorem dX9_count_155 : decode cX9_count 155 = .ok (.ireturn, 1) := by decide +kernel
theorem dX9_count_156 : decode cX9_count 156 = .ok (.aload_n 0, 1) := by decide +kernel
theorem dX9_count_157 : decode cX9_count 157 = .ok (.getfield 10, 3) := by decide +kernel
theorem dX9_count_160 : decode cX9_count 160 = .ok (.invokevirtual 326, 3) := by decide +kernel
theorem dX9_count_163 : decode cX9_count 163 = .ok (.ireturn, 1) := by decide +kernel
theorem dX9_count_164 : decode cX9_count 164 = .ok (.aload_n 0, 1) := by decide +kernel
theorem dX9_count_165 : decode cX9_count 165 = .ok (.getfield 10, 3) := by decide +kernel
theorem dX9_count_168 : decode cX9_count 168 = .ok (.invokevirtual 329, 3) := by decide +kernel
theorem dX9_count_171 : decode cX9_count 171 = .ok (.ireturn, 1) := by decide +kernel
theorem dX9_count_172 : decode cX9_count 172 = .ok (.aload_n 0, 1) := by decide +kernel
theorem dX9_count_173 : decode cX9_count 173 = .ok (.getfield 10, 3) := by decide +kernel
theorem dX9_count_176 : decode cX9_count 176 = .ok (.invokevirtual 332, 3) := by decide +kernel
theorem dX9_count_179 : decode cX9_count 179 = .ok (.ireturn, 1) := by decide +kernel
theorem dX9_count_180 : decode cX9_count 180 = .ok (.aload_n 0, 1) := by decide +kernel
theorem dX9_count_181 : decode cX9_count 181 = .ok (.getfield 10, 3) := by decide +kernel
theorem dX9_count_184 : decode cX9_count 184 = .ok (.invokevirtual 222, 3) := by decide +kernel
theorem dX9_count_187 : decode cX9_count 187 = .ok (.ireturn, 1) := by decide +kernel
theorem dX9_count_188 : decode cX9_count 188 = .ok (.aload_n 0, 1) := by decide +kernel
theorem dX9_count_189 : decode cX9_count 189 = .ok (.getfield 10, 3) := by decide +kernel
theorem dX9_count_192 : decode cX9_count 192 = .ok (.invokevirtual 335, 3) := by decide +kernel
theorem dX9_count_195 : decode cX9_count 195 = .ok (.ireturn, 1) := by decide +kernel
theorem dX9_count_196 : decode cX9_count 196 = .ok (.aload_n 0, 1) := by decide +kernel
theorem dX9_count_197 : decode cX9_count 197 = .ok (.getfield 29, 3) := by decide +kernel
theorem dX9_count_200 : decode cX9_count 200 = .ok (.getfield 256, 3) := by decide +kernel
theorem dX9_count_203 : decode cX9_count 203 = .ok (.ireturn, 1) := by decide +kernel
theorem dX9_count_204 : decode cX9_count 204 = .ok (.aload_n 0, 1) := by decide +kernel
theorem dX9_count_205 : decode cX9_count 205 = .ok (.getfield 36, 3) := by decide +kernel
theorem dX9_count_208 : decode cX9_count 208 = .ok (.getfield 226, 3) := by decide +kernel
theorem dX9_count_211 : decode cX9_count 211 = .ok (.ireturn, 1) := by decide +kernel
theorem dX9_count_212 : decode cX9_count 212 = .ok (.bipush (-2), 2) := by decide +kernel
theorem dX9_count_214 : decode cX9_count 214 = .ok (.ireturn, 1) := by decide +kernel
theorem dX9_isServicer_0 : decode cX9_isServicer 0 = .ok (.iload_n 0, 1) := by decide +kernel
theorem dX9_isServicer_1 : decode cX9_isServicer 1 = .ok (.ifCond .lt 15, 3) := by decide +kernel
theorem dX9_isServicer_4 : decode cX9_isServicer 4 = .ok (.iload_n 0, 1) := by decide +kernel
theorem dX9_isServicer_5 : decode cX9_isServicer 5 = .ok (.getstatic 313, 3) := by decide +kernel
theorem dX9_isServicer_8 : decode cX9_isServicer 8 = .ok (.arraylength, 1) := by decide +kernel
theorem dX9_isServicer_9 : decode cX9_isServicer 9 = .ok (.if_icmp .ge 7, 3) := by decide +kernel
theorem dX9_isServicer_12 : decode cX9_isServicer 12 = .ok (.iconst 1, 1) := by decide +kernel
theorem dX9_isServicer_13 : decode cX9_isServicer 13 = .ok (.goto 4, 3) := by decide +kernel
theorem dX9_isServicer_16 : decode cX9_isServicer 16 = .ok (.iconst 0, 1) := by decide +kernel
theorem dX9_isServicer_17 : decode cX9_isServicer 17 = .ok (.ireturn, 1) := by decide +kernel
theorem dX9_isLoanMonths_0 : decode cX9_isLoanMonths 0 = .ok (.iload_n 0, 1) := by decide +kernel
theorem dX9_isLoanMonths_1 : decode cX9_isLoanMonths 1 = .ok (.iconst 1, 1) := by decide +kernel
theorem dX9_isLoanMonths_2 : decode cX9_isLoanMonths 2 = .ok (.if_icmp .lt 13, 3) := by decide +kernel
theorem dX9_isLoanMonths_5 : decode cX9_isLoanMonths 5 = .ok (.iload_n 0, 1) := by decide +kernel
theorem dX9_isLoanMonths_6 : decode cX9_isLoanMonths 6 = .ok (.bipush 36, 2) := by decide +kernel
theorem dX9_isLoanMonths_8 : decode cX9_isLoanMonths 8 = .ok (.if_icmp .gt 7, 3) := by decide +kernel
theorem dX9_isLoanMonths_11 : decode cX9_isLoanMonths 11 = .ok (.iconst 1, 1) := by decide +kernel
theorem dX9_isLoanMonths_12 : decode cX9_isLoanMonths 12 = .ok (.goto 4, 3) := by decide +kernel
theorem dX9_isLoanMonths_15 : decode cX9_isLoanMonths 15 = .ok (.iconst 0, 1) := by decide +kernel
theorem dX9_isLoanMonths_16 : decode cX9_isLoanMonths 16 = .ok (.ireturn, 1) := by decide +kernel
theorem dX9_isPayment_0 : decode cX9_isPayment 0 = .ok (.iload_n 0, 1) := by decide +kernel
theorem dX9_isPayment_1 : decode cX9_isPayment 1 = .ok (.iconst 1, 1) := by decide +kernel
theorem dX9_isPayment_2 : decode cX9_isPayment 2 = .ok (.if_icmp .lt 14, 3) := by decide +kernel
theorem dX9_isPayment_5 : decode cX9_isPayment 5 = .ok (.iload_n 0, 1) := by decide +kernel
theorem dX9_isPayment_6 : decode cX9_isPayment 6 = .ok (.ldc_w 338, 3) := by decide +kernel
theorem dX9_isPayment_9 : decode cX9_isPayment 9 = .ok (.if_icmp .gt 7, 3) := by decide +kernel
theorem dX9_isPayment_12 : decode cX9_isPayment 12 = .ok (.iconst 1, 1) := by decide +kernel
theorem dX9_isPayment_13 : decode cX9_isPayment 13 = .ok (.goto 4, 3) := by decide +kernel
theorem dX9_isPayment_16 : decode cX9_isPayment 16 = .ok (.iconst 0, 1) := by decide +kernel
theorem dX9_isPayment_17 : decode cX9_isPayment 17 = .ok (.ireturn, 1) := by decide +kernel
theorem dX9_isPrice_0 : decode cX9_isPrice 0 = .ok (.iload_n 0, 1) := by decide +kernel
theorem dX9_isPrice_1 : decode cX9_isPrice 1 = .ok (.ifCond .lt 13, 3) := by decide +kernel
theorem dX9_isPrice_4 : decode cX9_isPrice 4 = .ok (.iload_n 0, 1) := by decide +kernel
theorem dX9_isPrice_5 : decode cX9_isPrice 5 = .ok (.ldc 83, 2) := by decide +kernel
theorem dX9_isPrice_7 : decode cX9_isPrice 7 = .ok (.if_icmp .gt 7, 3) := by decide +kernel
theorem dX9_isPrice_10 : decode cX9_isPrice 10 = .ok (.iconst 1, 1) := by decide +kernel
theorem dX9_isPrice_11 : decode cX9_isPrice 11 = .ok (.goto 4, 3) := by decide +kernel
theorem dX9_isPrice_14 : decode cX9_isPrice 14 = .ok (.iconst 0, 1) := by decide +kernel
theorem dX9_isPrice_15 : decode cX9_isPrice 15 = .ok (.ireturn, 1) := by decide +kernel
theorem dX9_feeOf_0 : decode cX9_feeOf 0 = .ok (.iload_n 0, 1) := by decide +kernel
theorem dX9_feeOf_1 : decode cX9_feeOf 1 = .ok (.invokestatic 184, 3) := by decide +kernel
theorem dX9_feeOf_4 : decode cX9_feeOf 4 = .ok (.ifCond .eq 11, 3) := by decide +kernel
theorem dX9_feeOf_7 : decode cX9_feeOf 7 = .ok (.getstatic 313, 3) := by decide +kernel
theorem dX9_feeOf_10 : decode cX9_feeOf 10 = .ok (.iload_n 0, 1) := by decide +kernel
theorem dX9_feeOf_11 : decode cX9_feeOf 11 = .ok (.iaload, 1) := by decide +kernel
theorem dX9_feeOf_12 : decode cX9_feeOf 12 = .ok (.goto 4, 3) := by decide +kernel
theorem dX9_feeOf_15 : decode cX9_feeOf 15 = .ok (.iconst 0, 1) := by decide +kernel
theorem dX9_feeOf_16 : decode cX9_feeOf 16 = .ok (.ireturn, 1) := by decide +kernel
theorem dX9_dividedUp_0 : decode cX9_dividedUp 0 = .ok (.iload_n 1, 1) := by decide +kernel
theorem dX9_dividedUp_1 : decode cX9_dividedUp 1 = .ok (.iconst 1, 1) := by decide +kernel
theorem dX9_dividedUp_2 : decode cX9_dividedUp 2 = .ok (.if_icmp .ge 7, 3) := by decide +kernel
theorem dX9_dividedUp_5 : decode cX9_dividedUp 5 = .ok (.iload_n 0, 1) := by decide +kernel
theorem dX9_dividedUp_6 : decode cX9_dividedUp 6 = .ok (.goto 10, 3) := by decide +kernel
theorem dX9_dividedUp_9 : decode cX9_dividedUp 9 = .ok (.iload_n 0, 1) := by decide +kernel
theorem dX9_dividedUp_10 : decode cX9_dividedUp 10 = .ok (.iload_n 1, 1) := by decide +kernel
theorem dX9_dividedUp_11 : decode cX9_dividedUp 11 = .ok (.iadd, 1) := by decide +kernel
theorem dX9_dividedUp_12 : decode cX9_dividedUp 12 = .ok (.iconst 1, 1) := by decide +kernel
theorem dX9_dividedUp_13 : decode cX9_dividedUp 13 = .ok (.isub, 1) := by decide +kernel
theorem dX9_dividedUp_14 : decode cX9_dividedUp 14 = .ok (.iload_n 1, 1) := by decide +kernel
theorem dX9_dividedUp_15 : decode cX9_dividedUp 15 = .ok (.idiv, 1) := by decide +kernel
theorem dX9_dividedUp_16 : decode cX9_dividedUp 16 = .ok (.ireturn, 1) := by decide +kernel
end
section
theorem dX10_in_0 : decode cX10_in 0 = .ok (.iload_n 0, 1) := by decide +kernel
theorem dX10_in_1 : decode cX10_in 1 = .ok (.iload_n 1, 1) := by decide +kernel
theorem dX10_in_2 : decode cX10_in 2 = .ok (.if_icmp .lt 12, 3) := by decide +kernel
theorem dX10_in_5 : decode cX10_in 5 = .ok (.iload_n 0, 1) := by decide +kernel
theorem dX10_in_6 : decode cX10_in 6 = .ok (.iload_n 2, 1) := by decide +kernel
theorem dX10_in_7 : decode cX10_in 7 = .ok (.if_icmp .gt 7, 3) := by decide +kernel
theorem dX10_in_10 : decode cX10_in 10 = .ok (.iconst 1, 1) := by decide +kernel
theorem dX10_in_11 : decode cX10_in 11 = .ok (.goto 4, 3) := by decide +kernel
theorem dX10_in_14 : decode cX10_in 14 = .ok (.iconst 0, 1) := by decide +kernel
theorem dX10_in_15 : decode cX10_in 15 = .ok (.ireturn, 1) := by decide +kernel
theorem dX10_init_0 : decode cX10_init 0 = .ok (.aload_n 0, 1) := by decide +kernel
theorem dX10_init_1 : decode cX10_init 1 = .ok (.invokespecial 7, 3) := by decide +kernel
theorem dX10_init_4 : decode cX10_init 4 = .ok (.aload_n 0, 1) := by decide +kernel
theorem dX10_init_5 : decode cX10_init 5 = .ok (.sipush 564, 3) := by decide +kernel
theorem dX10_init_8 : decode cX10_init 8 = .ok (.newarray .int, 2) := by decide +kernel
theorem dX10_init_10 : decode cX10_init 10 = .ok (.putfield 13, 3) := by decide +kernel
theorem dX10_init_13 : decode cX10_init 13 = .ok (.aload_n 0, 1) := by decide +kernel
theorem dX10_init_14 : decode cX10_init 14 = .ok (.sipush 564, 3) := by decide +kernel
theorem dX10_init_17 : decode cX10_init 17 = .ok (.newarray .int, 2) := by decide +kernel
theorem dX10_init_19 : decode cX10_init 19 = .ok (.putfield 17, 3) := by decide +kernel
theorem dX10_init_22 : decode cX10_init 22 = .ok (.aload_n 0, 1) := by decide +kernel
theorem dX10_init_23 : decode cX10_init 23 = .ok (.sipush 564, 3) := by decide +kernel
theorem dX10_init_26 : decode cX10_init 26 = .ok (.newarray .int, 2) := by decide +kernel
theorem dX10_init_28 : decode cX10_init 28 = .ok (.putfield 20, 3) := by decide +kernel
theorem dX10_init_31 : decode cX10_init 31 = .ok (.aload_n 0, 1) := by decide +kernel
theorem dX10_init_32 : decode cX10_init 32 = .ok (.sipush 2256, 3) := by decide +kernel
theorem dX10_init_35 : decode cX10_init 35 = .ok (.newarray .int, 2) := by decide +kernel
theorem dX10_init_37 : decode cX10_init 37 = .ok (.putfield 23, 3) := by decide +kernel
theorem dX10_init_40 : decode cX10_init 40 = .ok (.aload_n 0, 1) := by decide +kernel
theorem dX10_init_41 : decode cX10_init 41 = .ok (.bipush 60, 2) := by decide +kernel
theorem dX10_init_43 : decode cX10_init 43 = .ok (.newarray .int, 2) := by decide +kernel
theorem dX10_init_45 : decode cX10_init 45 = .ok (.putfield 26, 3) := by decide +kernel
theorem dX10_init_48 : decode cX10_init 48 = .ok (.aload_n 0, 1) := by decide +kernel
theorem dX10_init_49 : decode cX10_init 49 = .ok (.bipush 60, 2) := by decide +kernel
theorem dX10_init_51 : decode cX10_init 51 = .ok (.newarray .int, 2) := by decide +kernel
theorem dX10_init_53 : decode cX10_init 53 = .ok (.putfield 29, 3) := by decide +kernel
theorem dX10_init_56 : decode cX10_init 56 = .ok (.aload_n 0, 1) := by decide +kernel
theorem dX10_init_57 : decode cX10_init 57 = .ok (.bipush 60, 2) := by decide +kernel
theorem dX10_init_59 : decode cX10_init 59 = .ok (.newarray .int, 2) := by decide +kernel
theorem dX10_init_61 : decode cX10_init 61 = .ok (.putfield 32, 3) := by decide +kernel
theorem dX10_init_64 : decode cX10_init 64 = .ok (.aload_n 0, 1) := by decide +kernel
theorem dX10_init_65 : decode cX10_init 65 = .ok (.bipush 64, 2) := by decide +kernel
theorem dX10_init_67 : decode cX10_init 67 = .ok (.newarray .int, 2) := by decide +kernel
theorem dX10_init_69 : decode cX10_init 69 = .ok (.putfield 35, 3) := by decide +kernel
theorem dX10_init_72 : decode cX10_init 72 = .ok (.aload_n 0, 1) := by decide +kernel
theorem dX10_init_73 : decode cX10_init 73 = .ok (.getfield 13, 3) := by decide +kernel
theorem dX10_init_76 : decode cX10_init 76 = .ok (.iconst 5, 1) := by decide +kernel
theorem dX10_init_77 : decode cX10_init 77 = .ok (.iconst 5, 1) := by decide +kernel
theorem dX10_init_78 : decode cX10_init 78 = .ok (.iastore, 1) := by decide +kernel
theorem dX10_init_79 : decode cX10_init 79 = .ok (.return_, 1) := by decide +kernel
theorem dX10_of_0 : decode cX10_of 0 = .ok (.aload_n 0, 1) := by decide +kernel
theorem dX10_of_1 : decode cX10_of 1 = .ok (.getfield 13, 3) := by decide +kernel
theorem dX10_of_4 : decode cX10_of 4 = .ok (.bipush 34, 2) := by decide +kernel
theorem dX10_of_6 : decode cX10_of 6 = .ok (.bipush 11, 2) := by decide +kernel
theorem dX10_of_8 : decode cX10_of 8 = .ok (.iload_n 1, 1) := by decide +kernel
theorem dX10_of_9 : decode cX10_of 9 = .ok (.imul, 1) := by decide +kernel
theorem dX10_of_10 : decode cX10_of 10 = .ok (.iadd, 1) := by decide +kernel
theorem dX10_of_11 : decode cX10_of 11 = .ok (.iload_n 2, 1) := by decide +kernel
theorem dX10_of_12 : decode cX10_of 12 = .ok (.iadd, 1) := by decide +kernel
theorem dX10_of_13 : decode cX10_of 13 = .ok (.iaload, 1) := by decide +kernel
theorem dX10_of_14 : decode cX10_of 14 = .ok (.ireturn, 1) := by decide +kernel
theorem dX10_be_0 : decode cX10_be 0 = .ok (.aload_n 0, 1) := by decide +kernel
theorem dX10_be_1 : decode cX10_be 1 = .ok (.getfield 13, 3) := by decide +kernel
theorem dX10_be_4 : decode cX10_be 4 = .ok (.bipush 34, 2) := by decide +kernel
theorem dX10_be_6 : decode cX10_be 6 = .ok (.bipush 11, 2) := by decide +kernel
theorem dX10_be_8 : decode cX10_be 8 = .ok (.iload_n 1, 1) := by decide +kernel
theorem dX10_be_9 : decode cX10_be 9 = .ok (.imul, 1) := by decide +kernel
theorem dX10_be_10 : decode cX10_be 10 = .ok (.iadd, 1) := by decide +kernel
theorem dX10_be_11 : decode cX10_be 11 = .ok (.iload_n 2, 1) := by decide +kernel
theorem dX10_be_12 : decode cX10_be 12 = .ok (.iadd, 1) := by decide +kernel
theorem dX10_be_13 : decode cX10_be 13 = .ok (.iload_n 3, 1) := by decide +kernel
theorem dX10_be_14 : decode cX10_be 14 = .ok (.iastore, 1) := by decide +kernel
theorem dX10_be_15 : decode cX10_be 15 = .ok (.return_, 1) := by decide +kernel
theorem dX10_ofNote_0 : decode cX10_ofNote 0 = .ok (.aload_n 0, 1) := by decide +kernel
theorem dX10_ofNote_1 : decode cX10_ofNote 1 = .ok (.getfield 13, 3) := by decide +kernel
theorem dX10_ofNote_4 : decode cX10_ofNote 4 = .ok (.sipush 144, 3) := by decide +kernel
theorem dX10_ofNote_7 : decode cX10_ofNote 7 = .ok (.bipush 7, 2) := by decide +kernel
theorem dX10_ofNote_9 : decode cX10_ofNote 9 = .ok (.iload_n 1, 1) := by decide +kernel
theorem dX10_ofNote_10 : decode cX10_ofNote 10 = .ok (.imul, 1) := by decide +kernel
theorem dX10_ofNote_11 : decode cX10_ofNote 11 = .ok (.iadd, 1) := by decide +kernel
theorem dX10_ofNote_12 : decode cX10_ofNote 12 = .ok (.iload_n 2, 1) := by decide +kernel
theorem dX10_ofNote_13 : decode cX10_ofNote 13 = .ok (.iadd, 1) := by decide +kernel
theorem dX10_ofNote_14 : decode cX10_ofNote 14 = .ok (.iaload, 1) := by decide +kernel
theorem dX10_ofNote_15 : decode cX10_ofNote 15 = .ok (.ireturn, 1) := by decide +kernel
theorem dX10_more_0 : decode cX10_more 0 = .ok (.aload_n 0, 1) := by decide +kernel
theorem dX10_more_1 : decode cX10_more 1 = .ok (.getfield 13, 3) := by decide +kernel
theorem dX10_more_4 : decode cX10_more 4 = .ok (.sipush 144, 3) := by decide +kernel
theorem dX10_more_7 : decode cX10_more 7 = .ok (.bipush 7, 2) := by decide +kernel
theorem dX10_more_9 : decode cX10_more 9 = .ok (.iload_n 1, 1) := by decide +kernel
theorem dX10_more_10 : decode cX10_more 10 = .ok (.imul, 1) := by decide +kernel
theorem dX10_more_11 : decode cX10_more 11 = .ok (.iadd, 1) := by decide +kernel
theorem dX10_more_12 : decode cX10_more 12 = .ok (.iload_n 2, 1) := by decide +kernel
theorem dX10_more_13 : decode cX10_more 13 = .ok (.iadd, 1) := by decide +kernel
theorem dX10_more_14 : decode cX10_more 14 = .ok (.dup2, 1) := by decide +kernel
theorem dX10_more_15 : decode cX10_more 15 = .ok (.iaload, 1) := by decide +kernel
theorem dX10_more_16 : decode cX10_more 16 = .ok (.iload_n 3, 1) := by decide +kernel
theorem dX10_more_17 : decode cX10_more 17 = .ok (.iadd, 1) := by decide +kernel
theorem dX10_more_18 : decode cX10_more 18 = .ok (.iastore, 1) := by decide +kernel
theorem dX10_more_19 : decode cX10_more 19 = .ok (.return_, 1) := by decide +kernel
theorem dX10_isInvestor_0 : decode cX10_isInvestor 0 = .ok (.iload_n 1, 1) := by decide +kernel
theorem dX10_isInvestor_1 : decode cX10_isInvestor 1 = .ok (.iconst 0, 1) := by decide +kernel
theorem dX10_isInvestor_2 : decode cX10_isInvestor 2 = .ok (.aload_n 0, 1) := by decide +kernel
theorem dX10_isInvestor_3 : decode cX10_isInvestor 3 = .ok (.getfield 13, 3) := by decide +kernel
theorem dX10_isInvestor_6 : decode cX10_isInvestor 6 = .ok (.iconst 1, 1) := by decide +kernel
theorem dX10_isInvestor_7 : decode cX10_isInvestor 7 = .ok (.iaload, 1) := by decide +kernel
theorem dX10_isInvestor_8 : decode cX10_isInvestor 8 = .ok (.iconst 1, 1) := by decide +kernel
theorem dX10_isInvestor_9 : decode cX10_isInvestor 9 = .ok (.isub, 1) := by decide +kernel
theorem dX10_isInvestor_10 : decode cX10_isInvestor 10 = .ok (.invokestatic 38, 3) := by decide +kernel
theorem dX10_isInvestor_13 : decode cX10_isInvestor 13 = .ok (.ireturn, 1) := by decide +kernel
theorem dX10_isLoan_0 : decode cX10_isLoan 0 = .ok (.iload_n 1, 1) := by decide +kernel
theorem dX10_isLoan_1 : decode cX10_isLoan 1 = .ok (.iconst 0, 1) := by decide +kernel
theorem dX10_isLoan_2 : decode cX10_isLoan 2 = .ok (.aload_n 0, 1) := by decide +kernel
theorem dX10_isLoan_3 : decode cX10_isLoan 3 = .ok (.getfield 13, 3) := by decide +kernel
theorem dX10_isLoan_6 : decode cX10_isLoan 6 = .ok (.iconst 2, 1) := by decide +kernel
theorem dX10_isLoan_7 : decode cX10_isLoan 7 = .ok (.iaload, 1) := by decide +kernel
theorem dX10_isLoan_8 : decode cX10_isLoan 8 = .ok (.iconst 1, 1) := by decide +kernel
theorem dX10_isLoan_9 : decode cX10_isLoan 9 = .ok (.isub, 1) := by decide +kernel
theorem dX10_isLoan_10 : decode cX10_isLoan 10 = .ok (.invokestatic 38, 3) := by decide +kernel
theorem dX10_isLoan_13 : decode cX10_isLoan 13 = .ok (.ireturn, 1) := by decide +kernel
theorem dX10_isNote_0 : decode cX10_isNote 0 = .ok (.iload_n 1, 1) := by decide +kernel
theorem dX10_isNote_1 : decode cX10_isNote 1 = .ok (.iconst 0, 1) := by decide +kernel
theorem dX10_isNote_2 : decode cX10_isNote 2 = .ok (.aload_n 0, 1) := by decide +kernel
theorem dX10_isNote_3 : decode cX10_isNote 3 = .ok (.getfield 13, 3) := by decide +kernel
theorem dX10_isNote_6 : decode cX10_isNote 6 = .ok (.iconst 3, 1) := by decide +kernel
theorem dX10_isNote_7 : decode cX10_isNote 7 = .ok (.iaload, 1) := by decide +kernel
theorem dX10_isNote_8 : decode cX10_isNote 8 = .ok (.iconst 1, 1) := by decide +kernel
theorem dX10_isNote_9 : decode cX10_isNote 9 = .ok (.isub, 1) := by decide +kernel
theorem dX10_isNote_10 : decode cX10_isNote 10 = .ok (.invokestatic 38, 3) := by decide +kernel
theorem dX10_isNote_13 : decode cX10_isNote 13 = .ok (.ireturn, 1) := by decide +kernel
theorem dX10_isServicer_0 : decode cX10_isServicer 0 = .ok (.iload_n 0, 1) := by decide +kernel
theorem dX10_isServicer_1 : decode cX10_isServicer 1 = .ok (.iconst 0, 1) := by decide +kernel
theorem dX10_isServicer_2 : decode cX10_isServicer 2 = .ok (.iconst 3, 1) := by decide +kernel
theorem dX10_isServicer_3 : decode cX10_isServicer 3 = .ok (.invokestatic 38, 3) := by decide +kernel
theorem dX10_isServicer_6 : decode cX10_isServicer 6 = .ok (.ireturn, 1) := by decide +kernel
theorem dX10_runs_0 : decode cX10_runs 0 = .ok (.aload_n 0, 1) := by decide +kernel
theorem dX10_runs_1 : decode cX10_runs 1 = .ok (.iload_n 1, 1) := by decide +kernel
theorem dX10_runs_2 : decode cX10_runs 2 = .ok (.iconst 3, 1) := by decide +kernel
theorem dX10_runs_3 : decode cX10_runs 3 = .ok (.invokevirtual 42, 3) := by decide +kernel
theorem dX10_runs_6 : decode cX10_runs 6 = .ok (.iconst 1, 1) := by decide +kernel
theorem dX10_runs_7 : decode cX10_runs 7 = .ok (.if_icmp .ne 7, 3) := by decide +kernel
theorem dX10_runs_10 : decode cX10_runs 10 = .ok (.iconst 1, 1) := by decide +kernel
theorem dX10_runs_11 : decode cX10_runs 11 = .ok (.goto 4, 3) := by decide +kernel
theorem dX10_runs_14 : decode cX10_runs 14 = .ok (.iconst 0, 1) := by decide +kernel
theorem dX10_runs_15 : decode cX10_runs 15 = .ok (.ireturn, 1) := by decide +kernel
theorem dX10_feeOf_0 : decode cX10_feeOf 0 = .ok (.iload_n 0, 1) := by decide +kernel
theorem dX10_feeOf_1 : decode cX10_feeOf 1 = .ok (.ifCond .ne 7, 3) := by decide +kernel
theorem dX10_feeOf_4 : decode cX10_feeOf 4 = .ok (.iconst 5, 1) := by decide +kernel
theorem dX10_feeOf_5 : decode cX10_feeOf 5 = .ok (.goto 25, 3) := by decide +kernel
theorem dX10_feeOf_8 : decode cX10_feeOf 8 = .ok (.iload_n 0, 1) := by decide +kernel
theorem dX10_feeOf_9 : decode cX10_feeOf 9 = .ok (.iconst 1, 1) := by decide +kernel
theorem dX10_feeOf_10 : decode cX10_feeOf 10 = .ok (.if_icmp .ne 8, 3) := by decide +kernel
theorem dX10_feeOf_13 : decode cX10_feeOf 13 = .ok (.bipush 10, 2) := by decide +kernel
theorem dX10_feeOf_15 : decode cX10_feeOf 15 = .ok (.goto 15, 3) := by decide +kernel
theorem dX10_feeOf_18 : decode cX10_feeOf 18 = .ok (.iload_n 0, 1) := by decide +kernel
theorem dX10_feeOf_19 : decode cX10_feeOf 19 = .ok (.iconst 2, 1) := by decide +kernel
theorem dX10_feeOf_20 : decode cX10_feeOf 20 = .ok (.if_icmp .ne 8, 3) := by decide +kernel
theorem dX10_feeOf_23 : decode cX10_feeOf 23 = .ok (.bipush 20, 2) := by decide +kernel
theorem dX10_feeOf_25 : decode cX10_feeOf 25 = .ok (.goto 5, 3) := by decide +kernel
theorem dX10_feeOf_28 : decode cX10_feeOf 28 = .ok (.bipush 40, 2) := by decide +kernel
theorem dX10_feeOf_30 : decode cX10_feeOf 30 = .ok (.ireturn, 1) := by decide +kernel
theorem dX10_aside_0 : decode cX10_aside 0 = .ok (.aload_n 0, 1) := by decide +kernel
theorem dX10_aside_1 : decode cX10_aside 1 = .ok (.iconst 0, 1) := by decide +kernel
theorem dX10_aside_2 : decode cX10_aside 2 = .ok (.putfield 1, 3) := by decide +kernel
theorem dX10_aside_5 : decode cX10_aside 5 = .ok (.aload_n 0, 1) := by decide +kernel
theorem dX10_aside_6 : decode cX10_aside 6 = .ok (.iconst 0, 1) := by decide +kernel
theorem dX10_aside_7 : decode cX10_aside 7 = .ok (.putfield 46, 3) := by decide +kernel
theorem dX10_aside_10 : decode cX10_aside 10 = .ok (.iconst 0, 1) := by decide +kernel
theorem dX10_aside_11 : decode cX10_aside 11 = .ok (.istore_n 1, 1) := by decide +kernel
theorem dX10_aside_12 : decode cX10_aside 12 = .ok (.iload_n 1, 1) := by decide +kernel
theorem dX10_aside_13 : decode cX10_aside 13 = .ok (.sipush 564, 3) := by decide +kernel
theorem dX10_aside_16 : decode cX10_aside 16 = .ok (.if_icmp .ge 21, 3) := by decide +kernel
theorem dX10_aside_19 : decode cX10_aside 19 = .ok (.aload_n 0, 1) := by decide +kernel
theorem dX10_aside_20 : decode cX10_aside 20 = .ok (.getfield 17, 3) := by decide +kernel
theorem dX10_aside_23 : decode cX10_aside 23 = .ok (.iload_n 1, 1) := by decide +kernel
theorem dX10_aside_24 : decode cX10_aside 24 = .ok (.aload_n 0, 1) := by decide +kernel
theorem dX10_aside_25 : decode cX10_aside 25 = .ok (.getfield 13, 3) := by decide +kernel
theorem dX10_aside_28 : decode cX10_aside 28 = .ok (.iload_n 1, 1) := by decide +kernel
theorem dX10_aside_29 : decode cX10_aside 29 = .ok (.iaload, 1) := by decide +kernel
theorem dX10_aside_30 : decode cX10_aside 30 = .ok (.iastore, 1) := by decide +kernel
theorem dX10_aside_31 : decode cX10_aside 31 = .ok (.iinc 1 1, 3) := by decide +kernel
theorem dX10_aside_34 : decode cX10_aside 34 = .ok (.goto (-22), 3) := by decide +kernel
theorem dX10_aside_37 : decode cX10_aside 37 = .ok (.return_, 1) := by decide +kernel
theorem dX10_putBack_0 : decode cX10_putBack 0 = .ok (.iconst 0, 1) := by decide +kernel
theorem dX10_putBack_1 : decode cX10_putBack 1 = .ok (.istore_n 1, 1) := by decide +kernel
theorem dX10_putBack_2 : decode cX10_putBack 2 = .ok (.iload_n 1, 1) := by decide +kernel
theorem dX10_putBack_3 : decode cX10_putBack 3 = .ok (.sipush 564, 3) := by decide +kernel
theorem dX10_putBack_6 : decode cX10_putBack 6 = .ok (.if_icmp .ge 21, 3) := by decide +kernel
theorem dX10_putBack_9 : decode cX10_putBack 9 = .ok (.aload_n 0, 1) := by decide +kernel
theorem dX10_putBack_10 : decode cX10_putBack 10 = .ok (.getfield 13, 3) := by decide +kernel
theorem dX10_putBack_13 : decode cX10_putBack 13 = .ok (.iload_n 1, 1) := by decide +kernel
theorem dX10_putBack_14 : decode cX10_putBack 14 = .ok (.aload_n 0, 1) := by decide +kernel
theorem dX10_putBack_15 : decode cX10_putBack 15 = .ok (.getfield 17, 3) := by decide +kernel
theorem dX10_putBack_18 : decode cX10_putBack 18 = .ok (.iload_n 1, 1) := by decide +kernel
theorem dX10_putBack_19 : decode cX10_putBack 19 = .ok (.iaload, 1) := by decide +kernel
theorem dX10_putBack_20 : decode cX10_putBack 20 = .ok (.iastore, 1) := by decide +kernel
theorem dX10_putBack_21 : decode cX10_putBack 21 = .ok (.iinc 1 1, 3) := by decide +kernel
theorem dX10_putBack_24 : decode cX10_putBack 24 = .ok (.goto (-22), 3) := by decide +kernel
theorem dX10_putBack_27 : decode cX10_putBack 27 = .ok (.return_, 1) := by decide +kernel
theorem dX10_acted_0 : decode cX10_acted 0 = .ok (.aload_n 0, 1) := by decide +kernel
theorem dX10_acted_1 : decode cX10_acted 1 = .ok (.getfield 46, 3) := by decide +kernel
theorem dX10_acted_4 : decode cX10_acted 4 = .ok (.ifCond .eq 10, 3) := by decide +kernel
theorem dX10_acted_7 : decode cX10_acted 7 = .ok (.aload_n 0, 1) := by decide +kernel
theorem dX10_acted_8 : decode cX10_acted 8 = .ok (.invokevirtual 50, 3) := by decide +kernel
theorem dX10_acted_11 : decode cX10_acted 11 = .ok (.bipush (-3), 2) := by decide +kernel
theorem dX10_acted_13 : decode cX10_acted 13 = .ok (.ireturn, 1) := by decide +kernel
theorem dX10_acted_14 : decode cX10_acted 14 = .ok (.aload_n 0, 1) := by decide +kernel
theorem dX10_acted_15 : decode cX10_acted 15 = .ok (.getfield 53, 3) := by decide +kernel
theorem dX10_acted_18 : decode cX10_acted 18 = .ok (.iconst 4, 1) := by decide +kernel
theorem dX10_acted_19 : decode cX10_acted 19 = .ok (.if_icmp .ne 44, 3) := by decide +kernel
theorem dX10_acted_22 : decode cX10_acted 22 = .ok (.iconst 0, 1) := by decide +kernel
theorem dX10_acted_23 : decode cX10_acted 23 = .ok (.istore_n 2, 1) := by decide +kernel
theorem dX10_acted_24 : decode cX10_acted 24 = .ok (.iload_n 2, 1) := by decide +kernel
theorem dX10_acted_25 : decode cX10_acted 25 = .ok (.sipush 1692, 3) := by decide +kernel
theorem dX10_acted_28 : decode cX10_acted 28 = .ok (.if_icmp .ge 25, 3) := by decide +kernel
theorem dX10_acted_31 : decode cX10_acted 31 = .ok (.aload_n 0, 1) := by decide +kernel
theorem dX10_acted_32 : decode cX10_acted 32 = .ok (.getfield 23, 3) := by decide +kernel
theorem dX10_acted_35 : decode cX10_acted 35 = .ok (.iload_n 2, 1) := by decide +kernel
theorem dX10_acted_36 : decode cX10_acted 36 = .ok (.aload_n 0, 1) := by decide +kernel
theorem dX10_acted_37 : decode cX10_acted 37 = .ok (.getfield 23, 3) := by decide +kernel
theorem dX10_acted_40 : decode cX10_acted 40 = .ok (.iload_n 2, 1) := by decide +kernel
theorem dX10_acted_41 : decode cX10_acted 41 = .ok (.sipush 564, 3) := by decide +kernel
theorem dX10_acted_44 : decode cX10_acted 44 = .ok (.iadd, 1) := by decide +kernel
theorem dX10_acted_45 : decode cX10_acted 45 = .ok (.iaload, 1) := by decide +kernel
theorem dX10_acted_46 : decode cX10_acted 46 = .ok (.iastore, 1) := by decide +kernel
theorem dX10_acted_47 : decode cX10_acted 47 = .ok (.iinc 2 1, 3) := by decide +kernel
theorem dX10_acted_50 : decode cX10_acted 50 = .ok (.goto (-26), 3) := by decide +kernel
theorem dX10_acted_53 : decode cX10_acted 53 = .ok (.aload_n 0, 1) := by decide +kernel
theorem dX10_acted_54 : decode cX10_acted 54 = .ok (.dup, 1) := by decide +kernel
theorem dX10_acted_55 : decode cX10_acted 55 = .ok (.getfield 53, 3) := by decide +kernel
theorem dX10_acted_58 : decode cX10_acted 58 = .ok (.iconst 1, 1) := by decide +kernel
theorem dX10_acted_59 : decode cX10_acted 59 = .ok (.isub, 1) := by decide +kernel
theorem dX10_acted_60 : decode cX10_acted 60 = .ok (.putfield 53, 3) := by decide +kernel
theorem dX10_acted_63 : decode cX10_acted 63 = .ok (.iconst 0, 1) := by decide +kernel
theorem dX10_acted_64 : decode cX10_acted 64 = .ok (.istore_n 2, 1) := by decide +kernel
theorem dX10_acted_65 : decode cX10_acted 65 = .ok (.iload_n 2, 1) := by decide +kernel
theorem dX10_acted_66 : decode cX10_acted 66 = .ok (.sipush 564, 3) := by decide +kernel
theorem dX10_acted_69 : decode cX10_acted 69 = .ok (.if_icmp .ge 30, 3) := by decide +kernel
theorem dX10_acted_72 : decode cX10_acted 72 = .ok (.aload_n 0, 1) := by decide +kernel
theorem dX10_acted_73 : decode cX10_acted 73 = .ok (.getfield 23, 3) := by decide +kernel
theorem dX10_acted_76 : decode cX10_acted 76 = .ok (.sipush 564, 3) := by decide +kernel
theorem dX10_acted_79 : decode cX10_acted 79 = .ok (.aload_n 0, 1) := by decide +kernel
theorem dX10_acted_80 : decode cX10_acted 80 = .ok (.getfield 53, 3) := by decide +kernel
theorem dX10_acted_83 : decode cX10_acted 83 = .ok (.imul, 1) := by decide +kernel
theorem dX10_acted_84 : decode cX10_acted 84 = .ok (.iload_n 2, 1) := by decide +kernel
theorem dX10_acted_85 : decode cX10_acted 85 = .ok (.iadd, 1) := by decide +kernel
theorem dX10_acted_86 : decode cX10_acted 86 = .ok (.aload_n 0, 1) := by decide +kernel
theorem dX10_acted_87 : decode cX10_acted 87 = .ok (.getfield 17, 3) := by decide +kernel
theorem dX10_acted_90 : decode cX10_acted 90 = .ok (.iload_n 2, 1) := by decide +kernel
theorem dX10_acted_91 : decode cX10_acted 91 = .ok (.iaload, 1) := by decide +kernel
theorem dX10_acted_92 : decode cX10_acted 92 = .ok (.iastore, 1) := by decide +kernel
theorem dX10_acted_93 : decode cX10_acted 93 = .ok (.iinc 2 1, 3) := by decide +kernel
theorem dX10_acted_96 : decode cX10_acted 96 = .ok (.goto (-31), 3) := by decide +kernel
theorem dX10_acted_99 : decode cX10_acted 99 = .ok (.aload_n 0, 1) := by decide +kernel
theorem dX10_acted_100 : decode cX10_acted 100 = .ok (.dup, 1) := by decide +kernel
theorem dX10_acted_101 : decode cX10_acted 101 = .ok (.getfield 53, 3) := by decide +kernel
theorem dX10_acted_104 : decode cX10_acted 104 = .ok (.iconst 1, 1) := by decide +kernel
theorem dX10_acted_105 : decode cX10_acted 105 = .ok (.iadd, 1) := by decide +kernel
theorem dX10_acted_106 : decode cX10_acted 106 = .ok (.putfield 53, 3) := by decide +kernel
theorem dX10_acted_109 : decode cX10_acted 109 = .ok (.iload_n 1, 1) := by decide +kernel
theorem dX10_acted_110 : decode cX10_acted 110 = .ok (.ireturn, 1) := by decide +kernel
theorem dX10_payOut_0 : decode cX10_payOut 0 = .ok (.bipush 10, 2) := by decide +kernel
theorem dX10_payOut_2 : decode cX10_payOut 2 = .ok (.iconst 3, 1) := by decide +kernel
theorem dX10_payOut_3 : decode cX10_payOut 3 = .ok (.iload_n 1, 1) := by decide +kernel
theorem dX10_payOut_4 : decode cX10_payOut 4 = .ok (.imul, 1) := by decide +kernel
theorem dX10_payOut_5 : decode cX10_payOut 5 = .ok (.iadd, 1) := by decide +kernel
theorem dX10_payOut_6 : decode cX10_payOut 6 = .ok (.iconst 0, 1) := by decide +kernel
theorem dX10_payOut_7 : decode cX10_payOut 7 = .ok (.iadd, 1) := by decide +kernel
theorem dX10_payOut_8 : decode cX10_payOut 8 = .ok (.istore_n 3, 1) := by decide +kernel
theorem dX10_payOut_9 : decode cX10_payOut 9 = .ok (.aload_n 0, 1) := by decide +kernel
theorem dX10_payOut_10 : decode cX10_payOut 10 = .ok (.aload_n 0, 1) := by decide +kernel
theorem dX10_payOut_11 : decode cX10_payOut 11 = .ok (.getfield 46, 3) := by decide +kernel
theorem dX10_payOut_14 : decode cX10_payOut 14 = .ok (.ifCond .ne 20, 3) := by decide +kernel
theorem dX10_payOut_17 : decode cX10_payOut 17 = .ok (.aload_n 0, 1) := by decide +kernel
theorem dX10_payOut_18 : decode cX10_payOut 18 = .ok (.getfield 13, 3) := by decide +kernel
theorem dX10_payOut_21 : decode cX10_payOut 21 = .ok (.iload_n 3, 1) := by decide +kernel
theorem dX10_payOut_22 : decode cX10_payOut 22 = .ok (.iaload, 1) := by decide +kernel
theorem dX10_payOut_23 : decode cX10_payOut 23 = .ok (.i2l, 1) := by decide +kernel
theorem dX10_payOut_24 : decode cX10_payOut 24 = .ok (.iload_n 2, 1) := by decide +kernel
theorem dX10_payOut_25 : decode cX10_payOut 25 = .ok (.i2l, 1) := by decide +kernel
theorem dX10_payOut_26 : decode cX10_payOut 26 = .ok (.ladd, 1) := by decide +kernel
theorem dX10_payOut_27 : decode cX10_payOut 27 = .ok (.ldc2_w 56, 3) := by decide +kernel
theorem dX10_payOut_30 : decode cX10_payOut 30 = .ok (.lcmp, 1) := by decide +kernel
theorem dX10_payOut_31 : decode cX10_payOut 31 = .ok (.ifCond .le 7, 3) := by decide +kernel
theorem dX10_payOut_34 : decode cX10_payOut 34 = .ok (.iconst 1, 1) := by decide +kernel
theorem dX10_payOut_35 : decode cX10_payOut 35 = .ok (.goto 4, 3) := by decide +kernel
theorem dX10_payOut_38 : decode cX10_payOut 38 = .ok (.iconst 0, 1) := by decide +kernel
theorem dX10_payOut_39 : decode cX10_payOut 39 = .ok (.putfield 46, 3) := by decide +kernel
theorem dX10_payOut_42 : decode cX10_payOut 42 = .ok (.aload_n 0, 1) := by decide +kernel
theorem dX10_payOut_43 : decode cX10_payOut 43 = .ok (.getfield 13, 3) := by decide +kernel
theorem dX10_payOut_46 : decode cX10_payOut 46 = .ok (.iload_n 3, 1) := by decide +kernel
theorem dX10_payOut_47 : decode cX10_payOut 47 = .ok (.dup2, 1) := by decide +kernel
theorem dX10_payOut_48 : decode cX10_payOut 48 = .ok (.iaload, 1) := by decide +kernel
theorem dX10_payOut_49 : decode cX10_payOut 49 = .ok (.aload_n 0, 1) := by decide +kernel
theorem dX10_payOut_50 : decode cX10_payOut 50 = .ok (.getfield 46, 3) := by decide +kernel
theorem dX10_payOut_53 : decode cX10_payOut 53 = .ok (.ifCond .eq 7, 3) := by decide +kernel
theorem dX10_payOut_56 : decode cX10_payOut 56 = .ok (.iconst 0, 1) := by decide +kernel
theorem dX10_payOut_57 : decode cX10_payOut 57 = .ok (.goto 4, 3) := by decide +kernel
theorem dX10_payOut_60 : decode cX10_payOut 60 = .ok (.iload_n 2, 1) := by decide +kernel
theorem dX10_payOut_61 : decode cX10_payOut 61 = .ok (.iadd, 1) := by decide +kernel
theorem dX10_payOut_62 : decode cX10_payOut 62 = .ok (.iastore, 1) := by decide +kernel
theorem dX10_payOut_63 : decode cX10_payOut 63 = .ok (.return_, 1) := by decide +kernel
theorem dX10_addInvestor_0 : decode cX10_addInvestor 0 = .ok (.aload_n 0, 1) := by decide +kernel
theorem dX10_addInvestor_1 : decode cX10_addInvestor 1 = .ok (.invokevirtual 58, 3) := by decide +kernel
theorem dX10_addInvestor_4 : decode cX10_addInvestor 4 = .ok (.iload_n 1, 1) := by decide +kernel
theorem dX10_addInvestor_5 : decode cX10_addInvestor 5 = .ok (.ifCond .ge 6, 3) := by decide +kernel
theorem dX10_addInvestor_8 : decode cX10_addInvestor 8 = .ok (.bipush (-2), 2) := by decide +kernel
theorem dX10_addInvestor_10 : decode cX10_addInvestor 10 = .ok (.ireturn, 1) := by decide +kernel
theorem dX10_addInvestor_11 : decode cX10_addInvestor 11 = .ok (.aload_n 0, 1) := by decide +kernel
theorem dX10_addInvestor_12 : decode cX10_addInvestor 12 = .ok (.getfield 13, 3) := by decide +kernel
theorem dX10_addInvestor_15 : decode cX10_addInvestor 15 = .ok (.iconst 1, 1) := by decide +kernel
theorem dX10_addInvestor_16 : decode cX10_addInvestor 16 = .ok (.iaload, 1) := by decide +kernel
theorem dX10_addInvestor_17 : decode cX10_addInvestor 17 = .ok (.bipush 8, 2) := by decide +kernel
theorem dX10_addInvestor_19 : decode cX10_addInvestor 19 = .ok (.if_icmp .ne 6, 3) := by decide +kernel
theorem dX10_addInvestor_22 : decode cX10_addInvestor 22 = .ok (.bipush (-3), 2) := by decide +kernel
theorem dX10_addInvestor_24 : decode cX10_addInvestor 24 = .ok (.ireturn, 1) := by decide +kernel
theorem dX10_addInvestor_25 : decode cX10_addInvestor 25 = .ok (.aload_n 0, 1) := by decide +kernel
theorem dX10_addInvestor_26 : decode cX10_addInvestor 26 = .ok (.getfield 13, 3) := by decide +kernel
theorem dX10_addInvestor_29 : decode cX10_addInvestor 29 = .ok (.bipush 10, 2) := by decide +kernel
theorem dX10_addInvestor_31 : decode cX10_addInvestor 31 = .ok (.iconst 3, 1) := by decide +kernel
theorem dX10_addInvestor_32 : decode cX10_addInvestor 32 = .ok (.aload_n 0, 1) := by decide +kernel
theorem dX10_addInvestor_33 : decode cX10_addInvestor 33 = .ok (.getfield 13, 3) := by decide +kernel
theorem dX10_addInvestor_36 : decode cX10_addInvestor 36 = .ok (.iconst 1, 1) := by decide +kernel
theorem dX10_addInvestor_37 : decode cX10_addInvestor 37 = .ok (.iaload, 1) := by decide +kernel
theorem dX10_addInvestor_38 : decode cX10_addInvestor 38 = .ok (.imul, 1) := by decide +kernel
theorem dX10_addInvestor_39 : decode cX10_addInvestor 39 = .ok (.iadd, 1) := by decide +kernel
theorem dX10_addInvestor_40 : decode cX10_addInvestor 40 = .ok (.iload_n 1, 1) := by decide +kernel
theorem dX10_addInvestor_41 : decode cX10_addInvestor 41 = .ok (.iastore, 1) := by decide +kernel
theorem dX10_addInvestor_42 : decode cX10_addInvestor 42 = .ok (.aload_n 0, 1) := by decide +kernel
theorem dX10_addInvestor_43 : decode cX10_addInvestor 43 = .ok (.getfield 13, 3) := by decide +kernel
theorem dX10_addInvestor_46 : decode cX10_addInvestor 46 = .ok (.iconst 1, 1) := by decide +kernel
theorem dX10_addInvestor_47 : decode cX10_addInvestor 47 = .ok (.dup2, 1) := by decide +kernel
theorem dX10_addInvestor_48 : decode cX10_addInvestor 48 = .ok (.iaload, 1) := by decide +kernel
theorem dX10_addInvestor_49 : decode cX10_addInvestor 49 = .ok (.iconst 1, 1) := by decide +kernel
theorem dX10_addInvestor_50 : decode cX10_addInvestor 50 = .ok (.iadd, 1) := by decide +kernel
theorem dX10_addInvestor_51 : decode cX10_addInvestor 51 = .ok (.iastore, 1) := by decide +kernel
theorem dX10_addInvestor_52 : decode cX10_addInvestor 52 = .ok (.aload_n 0, 1) := by decide +kernel
theorem dX10_addInvestor_53 : decode cX10_addInvestor 53 = .ok (.aload_n 0, 1) := by decide +kernel
theorem dX10_addInvestor_54 : decode cX10_addInvestor 54 = .ok (.getfield 13, 3) := by decide +kernel
theorem dX10_addInvestor_57 : decode cX10_addInvestor 57 = .ok (.iconst 1, 1) := by decide +kernel
theorem dX10_addInvestor_58 : decode cX10_addInvestor 58 = .ok (.iaload, 1) := by decide +kernel
theorem dX10_addInvestor_59 : decode cX10_addInvestor 59 = .ok (.iconst 1, 1) := by decide +kernel
theorem dX10_addInvestor_60 : decode cX10_addInvestor 60 = .ok (.isub, 1) := by decide +kernel
theorem dX10_addInvestor_61 : decode cX10_addInvestor 61 = .ok (.invokevirtual 61, 3) := by decide +kernel
theorem dX10_addInvestor_64 : decode cX10_addInvestor 64 = .ok (.ireturn, 1) := by decide +kernel
theorem dX10_deposit_0 : decode cX10_deposit 0 = .ok (.aload_n 0, 1) := by decide +kernel
theorem dX10_deposit_1 : decode cX10_deposit 1 = .ok (.invokevirtual 58, 3) := by decide +kernel
theorem dX10_deposit_4 : decode cX10_deposit 4 = .ok (.aload_n 0, 1) := by decide +kernel
theorem dX10_deposit_5 : decode cX10_deposit 5 = .ok (.iload_n 1, 1) := by decide +kernel
theorem dX10_deposit_6 : decode cX10_deposit 6 = .ok (.invokevirtual 65, 3) := by decide +kernel
theorem dX10_deposit_9 : decode cX10_deposit 9 = .ok (.ifCond .ne 5, 3) := by decide +kernel
theorem dX10_deposit_12 : decode cX10_deposit 12 = .ok (.iconst (-1), 1) := by decide +kernel
theorem dX10_deposit_13 : decode cX10_deposit 13 = .ok (.ireturn, 1) := by decide +kernel
theorem dX10_deposit_14 : decode cX10_deposit 14 = .ok (.iload_n 2, 1) := by decide +kernel
theorem dX10_deposit_15 : decode cX10_deposit 15 = .ok (.iconst 1, 1) := by decide +kernel
theorem dX10_deposit_16 : decode cX10_deposit 16 = .ok (.if_icmp .ge 6, 3) := by decide +kernel
theorem dX10_deposit_19 : decode cX10_deposit 19 = .ok (.bipush (-2), 2) := by decide +kernel
theorem dX10_deposit_21 : decode cX10_deposit 21 = .ok (.ireturn, 1) := by decide +kernel
theorem dX10_deposit_22 : decode cX10_deposit 22 = .ok (.aload_n 0, 1) := by decide +kernel
theorem dX10_deposit_23 : decode cX10_deposit 23 = .ok (.iload_n 1, 1) := by decide +kernel
theorem dX10_deposit_24 : decode cX10_deposit 24 = .ok (.iload_n 2, 1) := by decide +kernel
theorem dX10_deposit_25 : decode cX10_deposit 25 = .ok (.invokevirtual 69, 3) := by decide +kernel
theorem dX10_deposit_28 : decode cX10_deposit 28 = .ok (.aload_n 0, 1) := by decide +kernel
theorem dX10_deposit_29 : decode cX10_deposit 29 = .ok (.aload_n 0, 1) := by decide +kernel
theorem dX10_deposit_30 : decode cX10_deposit 30 = .ok (.getfield 13, 3) := by decide +kernel
theorem dX10_deposit_33 : decode cX10_deposit 33 = .ok (.bipush 10, 2) := by decide +kernel
theorem dX10_deposit_35 : decode cX10_deposit 35 = .ok (.iconst 3, 1) := by decide +kernel
theorem dX10_deposit_36 : decode cX10_deposit 36 = .ok (.iload_n 1, 1) := by decide +kernel
theorem dX10_deposit_37 : decode cX10_deposit 37 = .ok (.imul, 1) := by decide +kernel
theorem dX10_deposit_38 : decode cX10_deposit 38 = .ok (.iadd, 1) := by decide +kernel
theorem dX10_deposit_39 : decode cX10_deposit 39 = .ok (.iaload, 1) := by decide +kernel
theorem dX10_deposit_40 : decode cX10_deposit 40 = .ok (.invokevirtual 61, 3) := by decide +kernel
theorem dX10_deposit_43 : decode cX10_deposit 43 = .ok (.ireturn, 1) := by decide +kernel
theorem dX10_setPoolShare_0 : decode cX10_setPoolShare 0 = .ok (.aload_n 0, 1) := by decide +kernel
theorem dX10_setPoolShare_1 : decode cX10_setPoolShare 1 = .ok (.invokevirtual 58, 3) := by decide +kernel
theorem dX10_setPoolShare_4 : decode cX10_setPoolShare 4 = .ok (.iload_n 1, 1) := by decide +kernel
theorem dX10_setPoolShare_5 : decode cX10_setPoolShare 5 = .ok (.iconst 0, 1) := by decide +kernel
theorem dX10_setPoolShare_6 : decode cX10_setPoolShare 6 = .ok (.bipush 50, 2) := by decide +kernel
theorem dX10_setPoolShare_8 : decode cX10_setPoolShare 8 = .ok (.invokestatic 38, 3) := by decide +kernel
theorem dX10_setPoolShare_11 : decode cX10_setPoolShare 11 = .ok (.ifCond .ne 6, 3) := by decide +kernel
theorem dX10_setPoolShare_14 : decode cX10_setPoolShare 14 = .ok (.bipush (-2), 2) := by decide +kernel
theorem dX10_setPoolShare_16 : decode cX10_setPoolShare 16 = .ok (.ireturn, 1) := by decide +kernel
theorem dX10_setPoolShare_17 : decode cX10_setPoolShare 17 = .ok (.aload_n 0, 1) := by decide +kernel
theorem dX10_setPoolShare_18 : decode cX10_setPoolShare 18 = .ok (.getfield 13, 3) := by decide +kernel
theorem dX10_setPoolShare_21 : decode cX10_setPoolShare 21 = .ok (.iconst 5, 1) := by decide +kernel
theorem dX10_setPoolShare_22 : decode cX10_setPoolShare 22 = .ok (.iaload, 1) := by decide +kernel
theorem dX10_setPoolShare_23 : decode cX10_setPoolShare 23 = .ok (.istore_n 2, 1) := by decide +kernel
theorem dX10_setPoolShare_24 : decode cX10_setPoolShare 24 = .ok (.iload_n 2, 1) := by decide +kernel
theorem dX10_setPoolShare_25 : decode cX10_setPoolShare 25 = .ok (.iload_n 1, 1) := by decide +kernel
theorem dX10_setPoolShare_26 : decode cX10_setPoolShare 26 = .ok (.if_icmp .ne 6, 3) := by decide +kernel
theorem dX10_setPoolShare_29 : decode cX10_setPoolShare 29 = .ok (.bipush (-5), 2) := by decide +kernel
theorem dX10_setPoolShare_31 : decode cX10_setPoolShare 31 = .ok (.ireturn, 1) := by decide +kernel
theorem dX10_setPoolShare_32 : decode cX10_setPoolShare 32 = .ok (.aload_n 0, 1) := by decide +kernel
theorem dX10_setPoolShare_33 : decode cX10_setPoolShare 33 = .ok (.getfield 13, 3) := by decide +kernel
theorem dX10_setPoolShare_36 : decode cX10_setPoolShare 36 = .ok (.iconst 5, 1) := by decide +kernel
theorem dX10_setPoolShare_37 : decode cX10_setPoolShare 37 = .ok (.iload_n 1, 1) := by decide +kernel
theorem dX10_setPoolShare_38 : decode cX10_setPoolShare 38 = .ok (.iastore, 1) := by decide +kernel
theorem dX10_setPoolShare_39 : decode cX10_setPoolShare 39 = .ok (.aload_n 0, 1) := by decide +kernel
theorem dX10_setPoolShare_40 : decode cX10_setPoolShare 40 = .ok (.iload_n 2, 1) := by decide +kernel
theorem dX10_setPoolShare_41 : decode cX10_setPoolShare 41 = .ok (.invokevirtual 61, 3) := by decide +kernel
theorem dX10_setPoolShare_44 : decode cX10_setPoolShare 44 = .ok (.ireturn, 1) := by decide +kernel
theorem dX10_openLoan_0 : decode cX10_openLoan 0 = .ok (.aload_n 0, 1) := by decide +kernel
theorem dX10_openLoan_1 : decode cX10_openLoan 1 = .ok (.invokevirtual 58, 3) := by decide +kernel
theorem dX10_openLoan_4 : decode cX10_openLoan 4 = .ok (.iload_n 1, 1) := by decide +kernel
theorem dX10_openLoan_5 : decode cX10_openLoan 5 = .ok (.bipush 100, 2) := by decide +kernel
theorem dX10_openLoan_7 : decode cX10_openLoan 7 = .ok (.ldc 73, 2) := by decide +kernel
theorem dX10_openLoan_9 : decode cX10_openLoan 9 = .ok (.invokestatic 38, 3) := by decide +kernel
theorem dX10_openLoan_12 : decode cX10_openLoan 12 = .ok (.ifCond .eq 23, 3) := by decide +kernel
theorem dX10_openLoan_15 : decode cX10_openLoan 15 = .ok (.iload_n 2, 1) := by decide +kernel
theorem dX10_openLoan_16 : decode cX10_openLoan 16 = .ok (.iconst 0, 1) := by decide +kernel
theorem dX10_openLoan_17 : decode cX10_openLoan 17 = .ok (.bipush 50, 2) := by decide +kernel
theorem dX10_openLoan_19 : decode cX10_openLoan 19 = .ok (.invokestatic 38, 3) := by decide +kernel
theorem dX10_openLoan_22 : decode cX10_openLoan 22 = .ok (.ifCond .eq 13, 3) := by decide +kernel
theorem dX10_openLoan_25 : decode cX10_openLoan 25 = .ok (.iload_n 3, 1) := by decide +kernel
theorem dX10_openLoan_26 : decode cX10_openLoan 26 = .ok (.iconst 1, 1) := by decide +kernel
theorem dX10_openLoan_27 : decode cX10_openLoan 27 = .ok (.bipush 36, 2) := by decide +kernel
theorem dX10_openLoan_29 : decode cX10_openLoan 29 = .ok (.invokestatic 38, 3) := by decide +kernel
theorem dX10_openLoan_32 : decode cX10_openLoan 32 = .ok (.ifCond .ne 6, 3) := by decide +kernel
theorem dX10_openLoan_35 : decode cX10_openLoan 35 = .ok (.bipush (-2), 2) := by decide +kernel
theorem dX10_openLoan_37 : decode cX10_openLoan 37 = .ok (.ireturn, 1) := by decide +kernel
theorem dX10_openLoan_38 : decode cX10_openLoan 38 = .ok (.aload_n 0, 1) := by decide +kernel
theorem dX10_openLoan_39 : decode cX10_openLoan 39 = .ok (.getfield 13, 3) := by decide +kernel
theorem dX10_openLoan_42 : decode cX10_openLoan 42 = .ok (.iconst 2, 1) := by decide +kernel
theorem dX10_openLoan_43 : decode cX10_openLoan 43 = .ok (.iaload, 1) := by decide +kernel
theorem dX10_openLoan_44 : decode cX10_openLoan 44 = .ok (.bipush 10, 2) := by decide +kernel
theorem dX10_openLoan_46 : decode cX10_openLoan 46 = .ok (.if_icmp .ne 6, 3) := by decide +kernel
theorem dX10_openLoan_49 : decode cX10_openLoan 49 = .ok (.bipush (-3), 2) := by decide +kernel
theorem dX10_openLoan_51 : decode cX10_openLoan 51 = .ok (.ireturn, 1) := by decide +kernel
theorem dX10_openLoan_52 : decode cX10_openLoan 52 = .ok (.aload_n 0, 1) := by decide +kernel
theorem dX10_openLoan_53 : decode cX10_openLoan 53 = .ok (.getfield 13, 3) := by decide +kernel
theorem dX10_openLoan_56 : decode cX10_openLoan 56 = .ok (.iconst 2, 1) := by decide +kernel
theorem dX10_openLoan_57 : decode cX10_openLoan 57 = .ok (.iaload, 1) := by decide +kernel
theorem dX10_openLoan_58 : decode cX10_openLoan 58 = .ok (.istore 4, 2) := by decide +kernel
theorem dX10_openLoan_60 : decode cX10_openLoan 60 = .ok (.iconst 0, 1) := by decide +kernel
theorem dX10_openLoan_61 : decode cX10_openLoan 61 = .ok (.istore 5, 2) := by decide +kernel
theorem dX10_openLoan_63 : decode cX10_openLoan 63 = .ok (.iload 5, 2) := by decide +kernel
theorem dX10_openLoan_65 : decode cX10_openLoan 65 = .ok (.bipush 11, 2) := by decide +kernel
theorem dX10_openLoan_67 : decode cX10_openLoan 67 = .ok (.if_icmp .ge 18, 3) := by decide +kernel
theorem dX10_openLoan_70 : decode cX10_openLoan 70 = .ok (.aload_n 0, 1) := by decide +kernel
theorem dX10_openLoan_71 : decode cX10_openLoan 71 = .ok (.iload 4, 2) := by decide +kernel
theorem dX10_openLoan_73 : decode cX10_openLoan 73 = .ok (.iload 5, 2) := by decide +kernel
theorem dX10_openLoan_75 : decode cX10_openLoan 75 = .ok (.iconst 0, 1) := by decide +kernel
theorem dX10_openLoan_76 : decode cX10_openLoan 76 = .ok (.invokevirtual 74, 3) := by decide +kernel
theorem dX10_openLoan_79 : decode cX10_openLoan 79 = .ok (.iinc 5 1, 3) := by decide +kernel
theorem dX10_openLoan_82 : decode cX10_openLoan 82 = .ok (.goto (-19), 3) := by decide +kernel
theorem dX10_openLoan_85 : decode cX10_openLoan 85 = .ok (.aload_n 0, 1) := by decide +kernel
theorem dX10_openLoan_86 : decode cX10_openLoan 86 = .ok (.iload 4, 2) := by decide +kernel
theorem dX10_openLoan_88 : decode cX10_openLoan 88 = .ok (.iconst 0, 1) := by decide +kernel
theorem dX10_openLoan_89 : decode cX10_openLoan 89 = .ok (.iload_n 1, 1) := by decide +kernel
theorem dX10_openLoan_90 : decode cX10_openLoan 90 = .ok (.invokevirtual 74, 3) := by decide +kernel
theorem dX10_openLoan_93 : decode cX10_openLoan 93 = .ok (.aload_n 0, 1) := by decide +kernel
theorem dX10_openLoan_94 : decode cX10_openLoan 94 = .ok (.iload 4, 2) := by decide +kernel
theorem dX10_openLoan_96 : decode cX10_openLoan 96 = .ok (.iconst 1, 1) := by decide +kernel
theorem dX10_openLoan_97 : decode cX10_openLoan 97 = .ok (.iload_n 2, 1) := by decide +kernel
theorem dX10_openLoan_98 : decode cX10_openLoan 98 = .ok (.invokevirtual 74, 3) := by decide +kernel
theorem dX10_openLoan_101 : decode cX10_openLoan 101 = .ok (.aload_n 0, 1) := by decide +kernel
theorem dX10_openLoan_102 : decode cX10_openLoan 102 = .ok (.iload 4, 2) := by decide +kernel
theorem dX10_openLoan_104 : decode cX10_openLoan 104 = .ok (.iconst 2, 1) := by decide +kernel
theorem dX10_openLoan_105 : decode cX10_openLoan 105 = .ok (.iload_n 3, 1) := by decide +kernel
theorem dX10_openLoan_106 : decode cX10_openLoan 106 = .ok (.invokevirtual 74, 3) := by decide +kernel
theorem dX10_openLoan_109 : decode cX10_openLoan 109 = .ok (.aload_n 0, 1) := by decide +kernel
theorem dX10_openLoan_110 : decode cX10_openLoan 110 = .ok (.iload 4, 2) := by decide +kernel
theorem dX10_openLoan_112 : decode cX10_openLoan 112 = .ok (.iconst 5, 1) := by decide +kernel
theorem dX10_openLoan_113 : decode cX10_openLoan 113 = .ok (.bipush (-5), 2) := by decide +kernel
theorem dX10_openLoan_115 : decode cX10_openLoan 115 = .ok (.invokevirtual 74, 3) := by decide +kernel
theorem dX10_openLoan_118 : decode cX10_openLoan 118 = .ok (.aload_n 0, 1) := by decide +kernel
theorem dX10_openLoan_119 : decode cX10_openLoan 119 = .ok (.iload 4, 2) := by decide +kernel
theorem dX10_openLoan_121 : decode cX10_openLoan 121 = .ok (.bipush 10, 2) := by decide +kernel
theorem dX10_openLoan_123 : decode cX10_openLoan 123 = .ok (.bipush (-5), 2) := by decide +kernel
theorem dX10_openLoan_125 : decode cX10_openLoan 125 = .ok (.invokevirtual 74, 3) := by decide +kernel
theorem dX10_openLoan_128 : decode cX10_openLoan 128 = .ok (.aload_n 0, 1) := by decide +kernel
theorem dX10_openLoan_129 : decode cX10_openLoan 129 = .ok (.getfield 13, 3) := by decide +kernel
theorem dX10_openLoan_132 : decode cX10_openLoan 132 = .ok (.iconst 2, 1) := by decide +kernel
theorem dX10_openLoan_133 : decode cX10_openLoan 133 = .ok (.dup2, 1) := by decide +kernel
theorem dX10_openLoan_134 : decode cX10_openLoan 134 = .ok (.iaload, 1) := by decide +kernel
theorem dX10_openLoan_135 : decode cX10_openLoan 135 = .ok (.iconst 1, 1) := by decide +kernel
theorem dX10_openLoan_136 : decode cX10_openLoan 136 = .ok (.iadd, 1) := by decide +kernel
theorem dX10_openLoan_137 : decode cX10_openLoan 137 = .ok (.iastore, 1) := by decide +kernel
theorem dX10_openLoan_138 : decode cX10_openLoan 138 = .ok (.aload_n 0, 1) := by decide +kernel
theorem dX10_openLoan_139 : decode cX10_openLoan 139 = .ok (.iload 4, 2) := by decide +kernel
theorem dX10_openLoan_141 : decode cX10_openLoan 141 = .ok (.invokevirtual 61, 3) := by decide +kernel
theorem dX10_openLoan_144 : decode cX10_openLoan 144 = .ok (.ireturn, 1) := by decide +kernel
theorem dX10_principals_0 : decode cX10_principals 0 = .ok (.iconst 0, 1) := by decide +kernel
theorem dX10_principals_1 : decode cX10_principals 1 = .ok (.istore_n 3, 1) := by decide +kernel
theorem dX10_principals_2 : decode cX10_principals 2 = .ok (.iconst 0, 1) := by decide +kernel
theorem dX10_principals_3 : decode cX10_principals 3 = .ok (.istore 4, 2) := by decide +kernel
theorem dX10_principals_5 : decode cX10_principals 5 = .ok (.iload 4, 2) := by decide +kernel
theorem dX10_principals_7 : decode cX10_principals 7 = .ok (.aload_n 0, 1) := by decide +kernel
theorem dX10_principals_8 : decode cX10_principals 8 = .ok (.getfield 13, 3) := by decide +kernel
theorem dX10_principals_11 : decode cX10_principals 11 = .ok (.iconst 3, 1) := by decide +kernel
theorem dX10_principals_12 : decode cX10_principals 12 = .ok (.iaload, 1) := by decide +kernel
theorem dX10_principals_13 : decode cX10_principals 13 = .ok (.if_icmp .ge 50, 3) := by decide +kernel
theorem dX10_principals_16 : decode cX10_principals 16 = .ok (.iload_n 3, 1) := by decide +kernel
theorem dX10_principals_17 : decode cX10_principals 17 = .ok (.aload_n 0, 1) := by decide +kernel
theorem dX10_principals_18 : decode cX10_principals 18 = .ok (.iload 4, 2) := by decide +kernel
theorem dX10_principals_20 : decode cX10_principals 20 = .ok (.iconst 1, 1) := by decide +kernel
theorem dX10_principals_21 : decode cX10_principals 21 = .ok (.invokevirtual 78, 3) := by decide +kernel
theorem dX10_principals_24 : decode cX10_principals 24 = .ok (.iload_n 1, 1) := by decide +kernel
theorem dX10_principals_25 : decode cX10_principals 25 = .ok (.if_icmp .ne 29, 3) := by decide +kernel
theorem dX10_principals_28 : decode cX10_principals 28 = .ok (.iload_n 2, 1) := by decide +kernel
theorem dX10_principals_29 : decode cX10_principals 29 = .ok (.iconst 2, 1) := by decide +kernel
theorem dX10_principals_30 : decode cX10_principals 30 = .ok (.if_icmp .eq 14, 3) := by decide +kernel
theorem dX10_principals_33 : decode cX10_principals 33 = .ok (.aload_n 0, 1) := by decide +kernel
theorem dX10_principals_34 : decode cX10_principals 34 = .ok (.iload 4, 2) := by decide +kernel
theorem dX10_principals_36 : decode cX10_principals 36 = .ok (.iconst 2, 1) := by decide +kernel
theorem dX10_principals_37 : decode cX10_principals 37 = .ok (.invokevirtual 78, 3) := by decide +kernel
theorem dX10_principals_40 : decode cX10_principals 40 = .ok (.iload_n 2, 1) := by decide +kernel
theorem dX10_principals_41 : decode cX10_principals 41 = .ok (.if_icmp .ne 13, 3) := by decide +kernel
theorem dX10_principals_44 : decode cX10_principals 44 = .ok (.aload_n 0, 1) := by decide +kernel
theorem dX10_principals_45 : decode cX10_principals 45 = .ok (.iload 4, 2) := by decide +kernel
theorem dX10_principals_47 : decode cX10_principals 47 = .ok (.iconst 3, 1) := by decide +kernel
theorem dX10_principals_48 : decode cX10_principals 48 = .ok (.invokevirtual 78, 3) := by decide +kernel
theorem dX10_principals_51 : decode cX10_principals 51 = .ok (.goto 4, 3) := by decide +kernel
theorem dX10_principals_54 : decode cX10_principals 54 = .ok (.iconst 0, 1) := by decide +kernel
theorem dX10_principals_55 : decode cX10_principals 55 = .ok (.iadd, 1) := by decide +kernel
theorem dX10_principals_56 : decode cX10_principals 56 = .ok (.istore_n 3, 1) := by decide +kernel
theorem dX10_principals_57 : decode cX10_principals 57 = .ok (.iinc 4 1, 3) := by decide +kernel
theorem dX10_principals_60 : decode cX10_principals 60 = .ok (.goto (-55), 3) := by decide +kernel
theorem dX10_principals_63 : decode cX10_principals 63 = .ok (.iload_n 3, 1) := by decide +kernel
theorem dX10_principals_64 : decode cX10_principals 64 = .ok (.ireturn, 1) := by decide +kernel
theorem dX10_missing_0 : decode cX10_missing 0 = .ok (.aload_n 0, 1) := by decide +kernel
theorem dX10_missing_1 : decode cX10_missing 1 = .ok (.iload_n 1, 1) := by decide +kernel
theorem dX10_missing_2 : decode cX10_missing 2 = .ok (.iconst 3, 1) := by decide +kernel
theorem dX10_missing_3 : decode cX10_missing 3 = .ok (.invokevirtual 42, 3) := by decide +kernel
theorem dX10_missing_6 : decode cX10_missing 6 = .ok (.ifCond .ne 19, 3) := by decide +kernel
theorem dX10_missing_9 : decode cX10_missing 9 = .ok (.aload_n 0, 1) := by decide +kernel
theorem dX10_missing_10 : decode cX10_missing 10 = .ok (.iload_n 1, 1) := by decide +kernel
theorem dX10_missing_11 : decode cX10_missing 11 = .ok (.iconst 0, 1) := by decide +kernel
theorem dX10_missing_12 : decode cX10_missing 12 = .ok (.invokevirtual 42, 3) := by decide +kernel
theorem dX10_missing_15 : decode cX10_missing 15 = .ok (.aload_n 0, 1) := by decide +kernel
theorem dX10_missing_16 : decode cX10_missing 16 = .ok (.iload_n 1, 1) := by decide +kernel
theorem dX10_missing_17 : decode cX10_missing 17 = .ok (.iconst 2, 1) := by decide +kernel
theorem dX10_missing_18 : decode cX10_missing 18 = .ok (.invokevirtual 81, 3) := by decide +kernel
theorem dX10_missing_21 : decode cX10_missing 21 = .ok (.isub, 1) := by decide +kernel
theorem dX10_missing_22 : decode cX10_missing 22 = .ok (.goto 4, 3) := by decide +kernel
theorem dX10_missing_25 : decode cX10_missing 25 = .ok (.iconst 0, 1) := by decide +kernel
theorem dX10_missing_26 : decode cX10_missing 26 = .ok (.ireturn, 1) := by decide +kernel
theorem dX10_upwards_0 : decode cX10_upwards 0 = .ok (.iload_n 0, 1) := by decide +kernel
theorem dX10_upwards_1 : decode cX10_upwards 1 = .ok (.iload_n 1, 1) := by decide +kernel
theorem dX10_upwards_2 : decode cX10_upwards 2 = .ok (.iadd, 1) := by decide +kernel
theorem dX10_upwards_3 : decode cX10_upwards 3 = .ok (.iconst 1, 1) := by decide +kernel
theorem dX10_upwards_4 : decode cX10_upwards 4 = .ok (.isub, 1) := by decide +kernel
theorem dX10_upwards_5 : decode cX10_upwards 5 = .ok (.iload_n 1, 1) := by decide +kernel
theorem dX10_upwards_6 : decode cX10_upwards 6 = .ok (.idiv, 1) := by decide +kernel
theorem dX10_upwards_7 : decode cX10_upwards 7 = .ok (.ireturn, 1) := by decide +kernel
theorem dX10_funds_0 : decode cX10_funds 0 = .ok (.aload_n 0, 1) := by decide +kernel
theorem dX10_funds_1 : decode cX10_funds 1 = .ok (.iload_n 1, 1) := by decide +kernel
theorem dX10_funds_2 : decode cX10_funds 2 = .ok (.invokevirtual 65, 3) := by decide +kernel
theorem dX10_funds_5 : decode cX10_funds 5 = .ok (.ifCond .eq 11, 3) := by decide +kernel
theorem dX10_funds_8 : decode cX10_funds 8 = .ok (.aload_n 0, 1) := by decide +kernel
theorem dX10_funds_9 : decode cX10_funds 9 = .ok (.iload_n 2, 1) := by decide +kernel
theorem dX10_funds_10 : decode cX10_funds 10 = .ok (.invokevirtual 84, 3) := by decide +kernel
theorem dX10_funds_13 : decode cX10_funds 13 = .ok (.ifCond .ne 5, 3) := by decide +kernel
theorem dX10_funds_16 : decode cX10_funds 16 = .ok (.iconst (-1), 1) := by decide +kernel
theorem dX10_funds_17 : decode cX10_funds 17 = .ok (.ireturn, 1) := by decide +kernel
theorem dX10_funds_18 : decode cX10_funds 18 = .ok (.iload 4, 2) := by decide +kernel
theorem dX10_funds_20 : decode cX10_funds 20 = .ok (.iconst 1, 1) := by decide +kernel
theorem dX10_funds_21 : decode cX10_funds 21 = .ok (.ldc 73, 2) := by decide +kernel
theorem dX10_funds_23 : decode cX10_funds 23 = .ok (.invokestatic 38, 3) := by decide +kernel
theorem dX10_funds_26 : decode cX10_funds 26 = .ok (.ifCond .ne 6, 3) := by decide +kernel
theorem dX10_funds_29 : decode cX10_funds 29 = .ok (.bipush (-2), 2) := by decide +kernel
theorem dX10_funds_31 : decode cX10_funds 31 = .ok (.ireturn, 1) := by decide +kernel
theorem dX10_funds_32 : decode cX10_funds 32 = .ok (.aload_n 0, 1) := by decide +kernel
theorem dX10_funds_33 : decode cX10_funds 33 = .ok (.iload_n 2, 1) := by decide +kernel
theorem dX10_funds_34 : decode cX10_funds 34 = .ok (.iconst 3, 1) := by decide +kernel
theorem dX10_funds_35 : decode cX10_funds 35 = .ok (.invokevirtual 42, 3) := by decide +kernel
theorem dX10_funds_38 : decode cX10_funds 38 = .ok (.ifCond .ne 29, 3) := by decide +kernel
theorem dX10_funds_41 : decode cX10_funds 41 = .ok (.aload_n 0, 1) := by decide +kernel
theorem dX10_funds_42 : decode cX10_funds 42 = .ok (.iload_n 2, 1) := by decide +kernel
theorem dX10_funds_43 : decode cX10_funds 43 = .ok (.invokevirtual 87, 3) := by decide +kernel
theorem dX10_funds_46 : decode cX10_funds 46 = .ok (.iload 4, 2) := by decide +kernel
theorem dX10_funds_48 : decode cX10_funds 48 = .ok (.if_icmp .lt 19, 3) := by decide +kernel
theorem dX10_funds_51 : decode cX10_funds 51 = .ok (.aload_n 0, 1) := by decide +kernel
theorem dX10_funds_52 : decode cX10_funds 52 = .ok (.getfield 13, 3) := by decide +kernel
theorem dX10_funds_55 : decode cX10_funds 55 = .ok (.bipush 10, 2) := by decide +kernel
theorem dX10_funds_57 : decode cX10_funds 57 = .ok (.iconst 3, 1) := by decide +kernel
theorem dX10_funds_58 : decode cX10_funds 58 = .ok (.iload_n 1, 1) := by decide +kernel
theorem dX10_funds_59 : decode cX10_funds 59 = .ok (.imul, 1) := by decide +kernel
theorem dX10_funds_60 : decode cX10_funds 60 = .ok (.iadd, 1) := by decide +kernel
theorem dX10_funds_61 : decode cX10_funds 61 = .ok (.iaload, 1) := by decide +kernel
theorem dX10_funds_62 : decode cX10_funds 62 = .ok (.iload 4, 2) := by decide +kernel
theorem dX10_funds_64 : decode cX10_funds 64 = .ok (.if_icmp .ge 6, 3) := by decide +kernel
theorem dX10_funds_67 : decode cX10_funds 67 = .ok (.bipush (-4), 2) := by decide +kernel
theorem dX10_funds_69 : decode cX10_funds 69 = .ok (.ireturn, 1) := by decide +kernel
theorem dX10_funds_70 : decode cX10_funds 70 = .ok (.aload_n 0, 1) := by decide +kernel
theorem dX10_funds_71 : decode cX10_funds 71 = .ok (.getfield 13, 3) := by decide +kernel
theorem dX10_funds_74 : decode cX10_funds 74 = .ok (.iconst 3, 1) := by decide +kernel
theorem dX10_funds_75 : decode cX10_funds 75 = .ok (.iaload, 1) := by decide +kernel
theorem dX10_funds_76 : decode cX10_funds 76 = .ok (.bipush 60, 2) := by decide +kernel
theorem dX10_funds_78 : decode cX10_funds 78 = .ok (.if_icmp .ne 6, 3) := by decide +kernel
theorem dX10_funds_81 : decode cX10_funds 81 = .ok (.bipush (-3), 2) := by decide +kernel
theorem dX10_funds_83 : decode cX10_funds 83 = .ok (.ireturn, 1) := by decide +kernel
theorem dX10_funds_84 : decode cX10_funds 84 = .ok (.sipush 144, 3) := by decide +kernel
theorem dX10_funds_87 : decode cX10_funds 87 = .ok (.bipush 7, 2) := by decide +kernel
theorem dX10_funds_89 : decode cX10_funds 89 = .ok (.aload_n 0, 1) := by decide +kernel
theorem dX10_funds_90 : decode cX10_funds 90 = .ok (.getfield 13, 3) := by decide +kernel
theorem dX10_funds_93 : decode cX10_funds 93 = .ok (.iconst 3, 1) := by decide +kernel
theorem dX10_funds_94 : decode cX10_funds 94 = .ok (.iaload, 1) := by decide +kernel
theorem dX10_funds_95 : decode cX10_funds 95 = .ok (.imul, 1) := by decide +kernel
theorem dX10_funds_96 : decode cX10_funds 96 = .ok (.iadd, 1) := by decide +kernel
theorem dX10_funds_97 : decode cX10_funds 97 = .ok (.istore 5, 2) := by decide +kernel
theorem dX10_funds_99 : decode cX10_funds 99 = .ok (.iconst 0, 1) := by decide +kernel
theorem dX10_funds_100 : decode cX10_funds 100 = .ok (.istore 6, 2) := by decide +kernel
theorem dX10_funds_102 : decode cX10_funds 102 = .ok (.iload 6, 2) := by decide +kernel
theorem dX10_funds_104 : decode cX10_funds 104 = .ok (.bipush 7, 2) := by decide +kernel
theorem dX10_funds_106 : decode cX10_funds 106 = .ok (.if_icmp .ge 20, 3) := by decide +kernel
theorem dX10_funds_109 : decode cX10_funds 109 = .ok (.aload_n 0, 1) := by decide +kernel
theorem dX10_funds_110 : decode cX10_funds 110 = .ok (.getfield 13, 3) := by decide +kernel
theorem dX10_funds_113 : decode cX10_funds 113 = .ok (.iload 5, 2) := by decide +kernel
theorem dX10_funds_115 : decode cX10_funds 115 = .ok (.iload 6, 2) := by decide +kernel
theorem dX10_funds_117 : decode cX10_funds 117 = .ok (.iadd, 1) := by decide +kernel
theorem dX10_funds_118 : decode cX10_funds 118 = .ok (.iconst 0, 1) := by decide +kernel
theorem dX10_funds_119 : decode cX10_funds 119 = .ok (.iastore, 1) := by decide +kernel
theorem dX10_funds_120 : decode cX10_funds 120 = .ok (.iinc 6 1, 3) := by decide +kernel
theorem dX10_funds_123 : decode cX10_funds 123 = .ok (.goto (-21), 3) := by decide +kernel
theorem dX10_funds_126 : decode cX10_funds 126 = .ok (.aload_n 0, 1) := by decide +kernel
theorem dX10_funds_127 : decode cX10_funds 127 = .ok (.getfield 13, 3) := by decide +kernel
theorem dX10_funds_130 : decode cX10_funds 130 = .ok (.iload 5, 2) := by decide +kernel
theorem dX10_funds_132 : decode cX10_funds 132 = .ok (.iconst 0, 1) := by decide +kernel
theorem dX10_funds_133 : decode cX10_funds 133 = .ok (.iadd, 1) := by decide +kernel
theorem dX10_funds_134 : decode cX10_funds 134 = .ok (.iload_n 1, 1) := by decide +kernel
theorem dX10_funds_135 : decode cX10_funds 135 = .ok (.iastore, 1) := by decide +kernel
theorem dX10_funds_136 : decode cX10_funds 136 = .ok (.aload_n 0, 1) := by decide +kernel
theorem dX10_funds_137 : decode cX10_funds 137 = .ok (.getfield 13, 3) := by decide +kernel
theorem dX10_funds_140 : decode cX10_funds 140 = .ok (.iload 5, 2) := by decide +kernel
theorem dX10_funds_142 : decode cX10_funds 142 = .ok (.iconst 1, 1) := by decide +kernel
theorem dX10_funds_143 : decode cX10_funds 143 = .ok (.iadd, 1) := by decide +kernel
theorem dX10_funds_144 : decode cX10_funds 144 = .ok (.iload_n 2, 1) := by decide +kernel
theorem dX10_funds_145 : decode cX10_funds 145 = .ok (.iastore, 1) := by decide +kernel
theorem dX10_funds_146 : decode cX10_funds 146 = .ok (.aload_n 0, 1) := by decide +kernel
theorem dX10_funds_147 : decode cX10_funds 147 = .ok (.getfield 13, 3) := by decide +kernel
theorem dX10_funds_150 : decode cX10_funds 150 = .ok (.iload 5, 2) := by decide +kernel
theorem dX10_funds_152 : decode cX10_funds 152 = .ok (.iconst 2, 1) := by decide +kernel
theorem dX10_funds_153 : decode cX10_funds 153 = .ok (.iadd, 1) := by decide +kernel
theorem dX10_funds_154 : decode cX10_funds 154 = .ok (.iload_n 3, 1) := by decide +kernel
theorem dX10_funds_155 : decode cX10_funds 155 = .ok (.iastore, 1) := by decide +kernel
theorem dX10_funds_156 : decode cX10_funds 156 = .ok (.aload_n 0, 1) := by decide +kernel
theorem dX10_funds_157 : decode cX10_funds 157 = .ok (.getfield 13, 3) := by decide +kernel
theorem dX10_funds_160 : decode cX10_funds 160 = .ok (.iload 5, 2) := by decide +kernel
theorem dX10_funds_162 : decode cX10_funds 162 = .ok (.iconst 3, 1) := by decide +kernel
theorem dX10_funds_163 : decode cX10_funds 163 = .ok (.iadd, 1) := by decide +kernel
theorem dX10_funds_164 : decode cX10_funds 164 = .ok (.iload 4, 2) := by decide +kernel
theorem dX10_funds_166 : decode cX10_funds 166 = .ok (.iastore, 1) := by decide +kernel
theorem dX10_funds_167 : decode cX10_funds 167 = .ok (.aload_n 0, 1) := by decide +kernel
theorem dX10_funds_168 : decode cX10_funds 168 = .ok (.getfield 13, 3) := by decide +kernel
theorem dX10_funds_171 : decode cX10_funds 171 = .ok (.iload 5, 2) := by decide +kernel
theorem dX10_funds_173 : decode cX10_funds 173 = .ok (.iconst 4, 1) := by decide +kernel
theorem dX10_funds_174 : decode cX10_funds 174 = .ok (.iadd, 1) := by decide +kernel
theorem dX10_funds_175 : decode cX10_funds 175 = .ok (.iload 4, 2) := by decide +kernel
theorem dX10_funds_177 : decode cX10_funds 177 = .ok (.iastore, 1) := by decide +kernel
theorem dX10_funds_178 : decode cX10_funds 178 = .ok (.aload_n 0, 1) := by decide +kernel
theorem dX10_funds_179 : decode cX10_funds 179 = .ok (.getfield 13, 3) := by decide +kernel
theorem dX10_funds_182 : decode cX10_funds 182 = .ok (.iconst 3, 1) := by decide +kernel
theorem dX10_funds_183 : decode cX10_funds 183 = .ok (.dup2, 1) := by decide +kernel
theorem dX10_funds_184 : decode cX10_funds 184 = .ok (.iaload, 1) := by decide +kernel
theorem dX10_funds_185 : decode cX10_funds 185 = .ok (.iconst 1, 1) := by decide +kernel
theorem dX10_funds_186 : decode cX10_funds 186 = .ok (.iadd, 1) := by decide +kernel
theorem dX10_funds_187 : decode cX10_funds 187 = .ok (.iastore, 1) := by decide +kernel
theorem dX10_funds_188 : decode cX10_funds 188 = .ok (.aload_n 0, 1) := by decide +kernel
theorem dX10_funds_189 : decode cX10_funds 189 = .ok (.getfield 13, 3) := by decide +kernel
theorem dX10_funds_192 : decode cX10_funds 192 = .ok (.bipush 10, 2) := by decide +kernel
theorem dX10_funds_194 : decode cX10_funds 194 = .ok (.iconst 3, 1) := by decide +kernel
theorem dX10_funds_195 : decode cX10_funds 195 = .ok (.iload_n 1, 1) := by decide +kernel
theorem dX10_funds_196 : decode cX10_funds 196 = .ok (.imul, 1) := by decide +kernel
theorem dX10_funds_197 : decode cX10_funds 197 = .ok (.iadd, 1) := by decide +kernel
theorem dX10_funds_198 : decode cX10_funds 198 = .ok (.dup2, 1) := by decide +kernel
theorem dX10_funds_199 : decode cX10_funds 199 = .ok (.iaload, 1) := by decide +kernel
theorem dX10_funds_200 : decode cX10_funds 200 = .ok (.iload 4, 2) := by decide +kernel
theorem dX10_funds_202 : decode cX10_funds 202 = .ok (.isub, 1) := by decide +kernel
theorem dX10_funds_203 : decode cX10_funds 203 = .ok (.iastore, 1) := by decide +kernel
theorem dX10_funds_204 : decode cX10_funds 204 = .ok (.aload_n 0, 1) := by decide +kernel
theorem dX10_funds_205 : decode cX10_funds 205 = .ok (.iload_n 2, 1) := by decide +kernel
theorem dX10_funds_206 : decode cX10_funds 206 = .ok (.invokevirtual 87, 3) := by decide +kernel
theorem dX10_funds_209 : decode cX10_funds 209 = .ok (.istore 6, 2) := by decide +kernel
theorem dX10_funds_211 : decode cX10_funds 211 = .ok (.iload 6, 2) := by decide +kernel
theorem dX10_funds_213 : decode cX10_funds 213 = .ok (.ifCond .ne 43, 3) := by decide +kernel
theorem dX10_funds_216 : decode cX10_funds 216 = .ok (.aload_n 0, 1) := by decide +kernel
theorem dX10_funds_217 : decode cX10_funds 217 = .ok (.iload_n 2, 1) := by decide +kernel
theorem dX10_funds_218 : decode cX10_funds 218 = .ok (.iconst 3, 1) := by decide +kernel
theorem dX10_funds_219 : decode cX10_funds 219 = .ok (.iconst 1, 1) := by decide +kernel
theorem dX10_funds_220 : decode cX10_funds 220 = .ok (.invokevirtual 74, 3) := by decide +kernel
theorem dX10_funds_223 : decode cX10_funds 223 = .ok (.aload_n 0, 1) := by decide +kernel
theorem dX10_funds_224 : decode cX10_funds 224 = .ok (.iload_n 2, 1) := by decide +kernel
theorem dX10_funds_225 : decode cX10_funds 225 = .ok (.iconst 4, 1) := by decide +kernel
theorem dX10_funds_226 : decode cX10_funds 226 = .ok (.aload_n 0, 1) := by decide +kernel
theorem dX10_funds_227 : decode cX10_funds 227 = .ok (.iload_n 2, 1) := by decide +kernel
theorem dX10_funds_228 : decode cX10_funds 228 = .ok (.iconst 0, 1) := by decide +kernel
theorem dX10_funds_229 : decode cX10_funds 229 = .ok (.invokevirtual 42, 3) := by decide +kernel
theorem dX10_funds_232 : decode cX10_funds 232 = .ok (.invokevirtual 74, 3) := by decide +kernel
theorem dX10_funds_235 : decode cX10_funds 235 = .ok (.aload_n 0, 1) := by decide +kernel
theorem dX10_funds_236 : decode cX10_funds 236 = .ok (.iload_n 2, 1) := by decide +kernel
theorem dX10_funds_237 : decode cX10_funds 237 = .ok (.iconst 5, 1) := by decide +kernel
theorem dX10_funds_238 : decode cX10_funds 238 = .ok (.aload_n 0, 1) := by decide +kernel
theorem dX10_funds_239 : decode cX10_funds 239 = .ok (.iload_n 2, 1) := by decide +kernel
theorem dX10_funds_240 : decode cX10_funds 240 = .ok (.iconst 0, 1) := by decide +kernel
theorem dX10_funds_241 : decode cX10_funds 241 = .ok (.invokevirtual 42, 3) := by decide +kernel
theorem dX10_funds_244 : decode cX10_funds 244 = .ok (.aload_n 0, 1) := by decide +kernel
theorem dX10_funds_245 : decode cX10_funds 245 = .ok (.iload_n 2, 1) := by decide +kernel
theorem dX10_funds_246 : decode cX10_funds 246 = .ok (.iconst 2, 1) := by decide +kernel
theorem dX10_funds_247 : decode cX10_funds 247 = .ok (.invokevirtual 42, 3) := by decide +kernel
theorem dX10_funds_250 : decode cX10_funds 250 = .ok (.invokestatic 90, 3) := by decide +kernel
theorem dX10_funds_253 : decode cX10_funds 253 = .ok (.invokevirtual 74, 3) := by decide +kernel
theorem dX10_funds_256 : decode cX10_funds 256 = .ok (.iload 6, 2) := by decide +kernel
theorem dX10_funds_258 : decode cX10_funds 258 = .ok (.ireturn, 1) := by decide +kernel
theorem dX10_fund_0 : decode cX10_fund 0 = .ok (.aload_n 0, 1) := by decide +kernel
theorem dX10_fund_1 : decode cX10_fund 1 = .ok (.invokevirtual 58, 3) := by decide +kernel
theorem dX10_fund_4 : decode cX10_fund 4 = .ok (.aload_n 0, 1) := by decide +kernel
theorem dX10_fund_5 : decode cX10_fund 5 = .ok (.iload_n 1, 1) := by decide +kernel
theorem dX10_fund_6 : decode cX10_fund 6 = .ok (.iload_n 2, 1) := by decide +kernel
theorem dX10_fund_7 : decode cX10_fund 7 = .ok (.iload_n 3, 1) := by decide +kernel
theorem dX10_fund_8 : decode cX10_fund 8 = .ok (.ifCond .eq 7, 3) := by decide +kernel
theorem dX10_fund_11 : decode cX10_fund 11 = .ok (.iconst 1, 1) := by decide +kernel
theorem dX10_fund_12 : decode cX10_fund 12 = .ok (.goto 4, 3) := by decide +kernel
theorem dX10_fund_15 : decode cX10_fund 15 = .ok (.iconst 0, 1) := by decide +kernel
theorem dX10_fund_16 : decode cX10_fund 16 = .ok (.iload 4, 2) := by decide +kernel
theorem dX10_fund_18 : decode cX10_fund 18 = .ok (.invokevirtual 93, 3) := by decide +kernel
theorem dX10_fund_21 : decode cX10_fund 21 = .ok (.istore 5, 2) := by decide +kernel
theorem dX10_fund_23 : decode cX10_fund 23 = .ok (.iload 5, 2) := by decide +kernel
theorem dX10_fund_25 : decode cX10_fund 25 = .ok (.ifCond .ge 8, 3) := by decide +kernel
theorem dX10_fund_28 : decode cX10_fund 28 = .ok (.iload 5, 2) := by decide +kernel
theorem dX10_fund_30 : decode cX10_fund 30 = .ok (.goto 9, 3) := by decide +kernel
theorem dX10_fund_33 : decode cX10_fund 33 = .ok (.aload_n 0, 1) := by decide +kernel
theorem dX10_fund_34 : decode cX10_fund 34 = .ok (.iload 5, 2) := by decide +kernel
theorem dX10_fund_36 : decode cX10_fund 36 = .ok (.invokevirtual 61, 3) := by decide +kernel
theorem dX10_fund_39 : decode cX10_fund 39 = .ok (.ireturn, 1) := by decide +kernel
theorem dX10_ends_0 : decode cX10_ends 0 = .ok (.aload_n 0, 1) := by decide +kernel
theorem dX10_ends_1 : decode cX10_ends 1 = .ok (.iload_n 1, 1) := by decide +kernel
theorem dX10_ends_2 : decode cX10_ends 2 = .ok (.iconst 3, 1) := by decide +kernel
theorem dX10_ends_3 : decode cX10_ends 3 = .ok (.iload_n 2, 1) := by decide +kernel
theorem dX10_ends_4 : decode cX10_ends 4 = .ok (.invokevirtual 74, 3) := by decide +kernel
theorem dX10_ends_7 : decode cX10_ends 7 = .ok (.aload_n 0, 1) := by decide +kernel
theorem dX10_ends_8 : decode cX10_ends 8 = .ok (.iload_n 1, 1) := by decide +kernel
theorem dX10_ends_9 : decode cX10_ends 9 = .ok (.bipush 8, 2) := by decide +kernel
theorem dX10_ends_11 : decode cX10_ends 11 = .ok (.iconst 0, 1) := by decide +kernel
theorem dX10_ends_12 : decode cX10_ends 12 = .ok (.invokevirtual 74, 3) := by decide +kernel
theorem dX10_ends_15 : decode cX10_ends 15 = .ok (.aload_n 0, 1) := by decide +kernel
theorem dX10_ends_16 : decode cX10_ends 16 = .ok (.iload_n 1, 1) := by decide +kernel
theorem dX10_ends_17 : decode cX10_ends 17 = .ok (.bipush 10, 2) := by decide +kernel
theorem dX10_ends_19 : decode cX10_ends 19 = .ok (.bipush (-5), 2) := by decide +kernel
theorem dX10_ends_21 : decode cX10_ends 21 = .ok (.invokevirtual 74, 3) := by decide +kernel
theorem dX10_ends_24 : decode cX10_ends 24 = .ok (.return_, 1) := by decide +kernel
theorem dX10_giveUp_0 : decode cX10_giveUp 0 = .ok (.aload_n 0, 1) := by decide +kernel
theorem dX10_giveUp_1 : decode cX10_giveUp 1 = .ok (.invokevirtual 58, 3) := by decide +kernel
theorem dX10_giveUp_4 : decode cX10_giveUp 4 = .ok (.aload_n 0, 1) := by decide +kernel
theorem dX10_giveUp_5 : decode cX10_giveUp 5 = .ok (.iload_n 1, 1) := by decide +kernel
theorem dX10_giveUp_6 : decode cX10_giveUp 6 = .ok (.invokevirtual 84, 3) := by decide +kernel
theorem dX10_giveUp_9 : decode cX10_giveUp 9 = .ok (.ifCond .ne 5, 3) := by decide +kernel
theorem dX10_giveUp_12 : decode cX10_giveUp 12 = .ok (.iconst (-1), 1) := by decide +kernel
theorem dX10_giveUp_13 : decode cX10_giveUp 13 = .ok (.ireturn, 1) := by decide +kernel
theorem dX10_giveUp_14 : decode cX10_giveUp 14 = .ok (.aload_n 0, 1) := by decide +kernel
theorem dX10_giveUp_15 : decode cX10_giveUp 15 = .ok (.iload_n 1, 1) := by decide +kernel
theorem dX10_giveUp_16 : decode cX10_giveUp 16 = .ok (.iconst 3, 1) := by decide +kernel
theorem dX10_giveUp_17 : decode cX10_giveUp 17 = .ok (.invokevirtual 42, 3) := by decide +kernel
theorem dX10_giveUp_20 : decode cX10_giveUp 20 = .ok (.ifCond .eq 6, 3) := by decide +kernel
theorem dX10_giveUp_23 : decode cX10_giveUp 23 = .ok (.bipush (-4), 2) := by decide +kernel
theorem dX10_giveUp_25 : decode cX10_giveUp 25 = .ok (.ireturn, 1) := by decide +kernel
theorem dX10_giveUp_26 : decode cX10_giveUp 26 = .ok (.aload_n 0, 1) := by decide +kernel
theorem dX10_giveUp_27 : decode cX10_giveUp 27 = .ok (.iload_n 1, 1) := by decide +kernel
theorem dX10_giveUp_28 : decode cX10_giveUp 28 = .ok (.iconst 2, 1) := by decide +kernel
theorem dX10_giveUp_29 : decode cX10_giveUp 29 = .ok (.invokevirtual 81, 3) := by decide +kernel
theorem dX10_giveUp_32 : decode cX10_giveUp 32 = .ok (.istore_n 2, 1) := by decide +kernel
theorem dX10_giveUp_33 : decode cX10_giveUp 33 = .ok (.iconst 0, 1) := by decide +kernel
theorem dX10_giveUp_34 : decode cX10_giveUp 34 = .ok (.istore_n 3, 1) := by decide +kernel
theorem dX10_giveUp_35 : decode cX10_giveUp 35 = .ok (.iload_n 3, 1) := by decide +kernel
theorem dX10_giveUp_36 : decode cX10_giveUp 36 = .ok (.aload_n 0, 1) := by decide +kernel
theorem dX10_giveUp_37 : decode cX10_giveUp 37 = .ok (.getfield 13, 3) := by decide +kernel
theorem dX10_giveUp_40 : decode cX10_giveUp 40 = .ok (.iconst 3, 1) := by decide +kernel
theorem dX10_giveUp_41 : decode cX10_giveUp 41 = .ok (.iaload, 1) := by decide +kernel
theorem dX10_giveUp_42 : decode cX10_giveUp 42 = .ok (.if_icmp .ge 48, 3) := by decide +kernel
theorem dX10_giveUp_45 : decode cX10_giveUp 45 = .ok (.aload_n 0, 1) := by decide +kernel
theorem dX10_giveUp_46 : decode cX10_giveUp 46 = .ok (.iload_n 3, 1) := by decide +kernel
theorem dX10_giveUp_47 : decode cX10_giveUp 47 = .ok (.iconst 1, 1) := by decide +kernel
theorem dX10_giveUp_48 : decode cX10_giveUp 48 = .ok (.invokevirtual 78, 3) := by decide +kernel
theorem dX10_giveUp_51 : decode cX10_giveUp 51 = .ok (.iload_n 1, 1) := by decide +kernel
theorem dX10_giveUp_52 : decode cX10_giveUp 52 = .ok (.if_icmp .ne 32, 3) := by decide +kernel
theorem dX10_giveUp_55 : decode cX10_giveUp 55 = .ok (.aload_n 0, 1) := by decide +kernel
theorem dX10_giveUp_56 : decode cX10_giveUp 56 = .ok (.aload_n 0, 1) := by decide +kernel
theorem dX10_giveUp_57 : decode cX10_giveUp 57 = .ok (.iload_n 3, 1) := by decide +kernel
theorem dX10_giveUp_58 : decode cX10_giveUp 58 = .ok (.iconst 0, 1) := by decide +kernel
theorem dX10_giveUp_59 : decode cX10_giveUp 59 = .ok (.invokevirtual 78, 3) := by decide +kernel
theorem dX10_giveUp_62 : decode cX10_giveUp 62 = .ok (.aload_n 0, 1) := by decide +kernel
theorem dX10_giveUp_63 : decode cX10_giveUp 63 = .ok (.iload_n 3, 1) := by decide +kernel
theorem dX10_giveUp_64 : decode cX10_giveUp 64 = .ok (.iconst 3, 1) := by decide +kernel
theorem dX10_giveUp_65 : decode cX10_giveUp 65 = .ok (.invokevirtual 78, 3) := by decide +kernel
theorem dX10_giveUp_68 : decode cX10_giveUp 68 = .ok (.invokevirtual 69, 3) := by decide +kernel
theorem dX10_giveUp_71 : decode cX10_giveUp 71 = .ok (.aload_n 0, 1) := by decide +kernel
theorem dX10_giveUp_72 : decode cX10_giveUp 72 = .ok (.iload_n 3, 1) := by decide +kernel
theorem dX10_giveUp_73 : decode cX10_giveUp 73 = .ok (.iconst 3, 1) := by decide +kernel
theorem dX10_giveUp_74 : decode cX10_giveUp 74 = .ok (.aload_n 0, 1) := by decide +kernel
theorem dX10_giveUp_75 : decode cX10_giveUp 75 = .ok (.iload_n 3, 1) := by decide +kernel
theorem dX10_giveUp_76 : decode cX10_giveUp 76 = .ok (.iconst 3, 1) := by decide +kernel
theorem dX10_giveUp_77 : decode cX10_giveUp 77 = .ok (.invokevirtual 78, 3) := by decide +kernel
theorem dX10_giveUp_80 : decode cX10_giveUp 80 = .ok (.ineg, 1) := by decide +kernel
theorem dX10_giveUp_81 : decode cX10_giveUp 81 = .ok (.invokevirtual 97, 3) := by decide +kernel
theorem dX10_giveUp_84 : decode cX10_giveUp 84 = .ok (.iinc 3 1, 3) := by decide +kernel
theorem dX10_giveUp_87 : decode cX10_giveUp 87 = .ok (.goto (-52), 3) := by decide +kernel
theorem dX10_giveUp_90 : decode cX10_giveUp 90 = .ok (.aload_n 0, 1) := by decide +kernel
theorem dX10_giveUp_91 : decode cX10_giveUp 91 = .ok (.iload_n 1, 1) := by decide +kernel
theorem dX10_giveUp_92 : decode cX10_giveUp 92 = .ok (.iconst 4, 1) := by decide +kernel
theorem dX10_giveUp_93 : decode cX10_giveUp 93 = .ok (.invokevirtual 100, 3) := by decide +kernel
theorem dX10_giveUp_96 : decode cX10_giveUp 96 = .ok (.aload_n 0, 1) := by decide +kernel
theorem dX10_giveUp_97 : decode cX10_giveUp 97 = .ok (.iload_n 2, 1) := by decide +kernel
theorem dX10_giveUp_98 : decode cX10_giveUp 98 = .ok (.invokevirtual 61, 3) := by decide +kernel
theorem dX10_giveUp_101 : decode cX10_giveUp 101 = .ok (.ireturn, 1) := by decide +kernel
theorem dX10_weigh_0 : decode cX10_weigh 0 = .ok (.iconst 0, 1) := by decide +kernel
theorem dX10_weigh_1 : decode cX10_weigh 1 = .ok (.istore_n 3, 1) := by decide +kernel
theorem dX10_weigh_2 : decode cX10_weigh 2 = .ok (.iconst 0, 1) := by decide +kernel
theorem dX10_weigh_3 : decode cX10_weigh 3 = .ok (.istore 4, 2) := by decide +kernel
theorem dX10_weigh_5 : decode cX10_weigh 5 = .ok (.iload 4, 2) := by decide +kernel
theorem dX10_weigh_7 : decode cX10_weigh 7 = .ok (.aload_n 0, 1) := by decide +kernel
theorem dX10_weigh_8 : decode cX10_weigh 8 = .ok (.getfield 13, 3) := by decide +kernel
theorem dX10_weigh_11 : decode cX10_weigh 11 = .ok (.iconst 3, 1) := by decide +kernel
theorem dX10_weigh_12 : decode cX10_weigh 12 = .ok (.iaload, 1) := by decide +kernel
theorem dX10_weigh_13 : decode cX10_weigh 13 = .ok (.if_icmp .ge 64, 3) := by decide +kernel
theorem dX10_weigh_16 : decode cX10_weigh 16 = .ok (.aload_n 0, 1) := by decide +kernel
theorem dX10_weigh_17 : decode cX10_weigh 17 = .ok (.getfield 29, 3) := by decide +kernel
theorem dX10_weigh_20 : decode cX10_weigh 20 = .ok (.iload 4, 2) := by decide +kernel
theorem dX10_weigh_22 : decode cX10_weigh 22 = .ok (.aload_n 0, 1) := by decide +kernel
theorem dX10_weigh_23 : decode cX10_weigh 23 = .ok (.iload 4, 2) := by decide +kernel
theorem dX10_weigh_25 : decode cX10_weigh 25 = .ok (.iconst 1, 1) := by decide +kernel
theorem dX10_weigh_26 : decode cX10_weigh 26 = .ok (.invokevirtual 78, 3) := by decide +kernel
theorem dX10_weigh_29 : decode cX10_weigh 29 = .ok (.iload_n 1, 1) := by decide +kernel
theorem dX10_weigh_30 : decode cX10_weigh 30 = .ok (.if_icmp .ne 29, 3) := by decide +kernel
theorem dX10_weigh_33 : decode cX10_weigh 33 = .ok (.iload_n 2, 1) := by decide +kernel
theorem dX10_weigh_34 : decode cX10_weigh 34 = .ok (.iconst 2, 1) := by decide +kernel
theorem dX10_weigh_35 : decode cX10_weigh 35 = .ok (.if_icmp .eq 14, 3) := by decide +kernel
theorem dX10_weigh_38 : decode cX10_weigh 38 = .ok (.aload_n 0, 1) := by decide +kernel
theorem dX10_weigh_39 : decode cX10_weigh 39 = .ok (.iload 4, 2) := by decide +kernel
theorem dX10_weigh_41 : decode cX10_weigh 41 = .ok (.iconst 2, 1) := by decide +kernel
theorem dX10_weigh_42 : decode cX10_weigh 42 = .ok (.invokevirtual 78, 3) := by decide +kernel
theorem dX10_weigh_45 : decode cX10_weigh 45 = .ok (.iload_n 2, 1) := by decide +kernel
theorem dX10_weigh_46 : decode cX10_weigh 46 = .ok (.if_icmp .ne 13, 3) := by decide +kernel
theorem dX10_weigh_49 : decode cX10_weigh 49 = .ok (.aload_n 0, 1) := by decide +kernel
theorem dX10_weigh_50 : decode cX10_weigh 50 = .ok (.iload 4, 2) := by decide +kernel
theorem dX10_weigh_52 : decode cX10_weigh 52 = .ok (.iconst 3, 1) := by decide +kernel
theorem dX10_weigh_53 : decode cX10_weigh 53 = .ok (.invokevirtual 78, 3) := by decide +kernel
theorem dX10_weigh_56 : decode cX10_weigh 56 = .ok (.goto 4, 3) := by decide +kernel
theorem dX10_weigh_59 : decode cX10_weigh 59 = .ok (.iconst 0, 1) := by decide +kernel
theorem dX10_weigh_60 : decode cX10_weigh 60 = .ok (.iastore, 1) := by decide +kernel
theorem dX10_weigh_61 : decode cX10_weigh 61 = .ok (.iload_n 3, 1) := by decide +kernel
theorem dX10_weigh_62 : decode cX10_weigh 62 = .ok (.aload_n 0, 1) := by decide +kernel
theorem dX10_weigh_63 : decode cX10_weigh 63 = .ok (.getfield 29, 3) := by decide +kernel
theorem dX10_weigh_66 : decode cX10_weigh 66 = .ok (.iload 4, 2) := by decide +kernel
theorem dX10_weigh_68 : decode cX10_weigh 68 = .ok (.iaload, 1) := by decide +kernel
theorem dX10_weigh_69 : decode cX10_weigh 69 = .ok (.iadd, 1) := by decide +kernel
theorem dX10_weigh_70 : decode cX10_weigh 70 = .ok (.istore_n 3, 1) := by decide +kernel
theorem dX10_weigh_71 : decode cX10_weigh 71 = .ok (.iinc 4 1, 3) := by decide +kernel
theorem dX10_weigh_74 : decode cX10_weigh 74 = .ok (.goto (-69), 3) := by decide +kernel
theorem dX10_weigh_77 : decode cX10_weigh 77 = .ok (.iload_n 3, 1) := by decide +kernel
theorem dX10_weigh_78 : decode cX10_weigh 78 = .ok (.ireturn, 1) := by decide +kernel
theorem dX10_share_0 : decode cX10_share 0 = .ok (.iload_n 1, 1) := by decide +kernel
theorem dX10_share_1 : decode cX10_share 1 = .ok (.istore_n 3, 1) := by decide +kernel
theorem dX10_share_2 : decode cX10_share 2 = .ok (.iconst 0, 1) := by decide +kernel
theorem dX10_share_3 : decode cX10_share 3 = .ok (.istore 4, 2) := by decide +kernel
theorem dX10_share_5 : decode cX10_share 5 = .ok (.iload 4, 2) := by decide +kernel
theorem dX10_share_7 : decode cX10_share 7 = .ok (.aload_n 0, 1) := by decide +kernel
theorem dX10_share_8 : decode cX10_share 8 = .ok (.getfield 13, 3) := by decide +kernel
theorem dX10_share_11 : decode cX10_share 11 = .ok (.iconst 3, 1) := by decide +kernel
theorem dX10_share_12 : decode cX10_share 12 = .ok (.iaload, 1) := by decide +kernel
theorem dX10_share_13 : decode cX10_share 13 = .ok (.if_icmp .ge 49, 3) := by decide +kernel
theorem dX10_share_16 : decode cX10_share 16 = .ok (.aload_n 0, 1) := by decide +kernel
theorem dX10_share_17 : decode cX10_share 17 = .ok (.getfield 32, 3) := by decide +kernel
theorem dX10_share_20 : decode cX10_share 20 = .ok (.iload 4, 2) := by decide +kernel
theorem dX10_share_22 : decode cX10_share 22 = .ok (.iload_n 2, 1) := by decide +kernel
theorem dX10_share_23 : decode cX10_share 23 = .ok (.ifCond .ne 7, 3) := by decide +kernel
theorem dX10_share_26 : decode cX10_share 26 = .ok (.iconst 0, 1) := by decide +kernel
theorem dX10_share_27 : decode cX10_share 27 = .ok (.goto 18, 3) := by decide +kernel
theorem dX10_share_30 : decode cX10_share 30 = .ok (.iload_n 1, 1) := by decide +kernel
theorem dX10_share_31 : decode cX10_share 31 = .ok (.i2l, 1) := by decide +kernel
theorem dX10_share_32 : decode cX10_share 32 = .ok (.aload_n 0, 1) := by decide +kernel
theorem dX10_share_33 : decode cX10_share 33 = .ok (.getfield 29, 3) := by decide +kernel
theorem dX10_share_36 : decode cX10_share 36 = .ok (.iload 4, 2) := by decide +kernel
theorem dX10_share_38 : decode cX10_share 38 = .ok (.iaload, 1) := by decide +kernel
theorem dX10_share_39 : decode cX10_share 39 = .ok (.i2l, 1) := by decide +kernel
theorem dX10_share_40 : decode cX10_share 40 = .ok (.lmul, 1) := by decide +kernel
theorem dX10_share_41 : decode cX10_share 41 = .ok (.iload_n 2, 1) := by decide +kernel
theorem dX10_share_42 : decode cX10_share 42 = .ok (.i2l, 1) := by decide +kernel
theorem dX10_share_43 : decode cX10_share 43 = .ok (.ldiv, 1) := by decide +kernel
theorem dX10_share_44 : decode cX10_share 44 = .ok (.l2i, 1) := by decide +kernel
theorem dX10_share_45 : decode cX10_share 45 = .ok (.iastore, 1) := by decide +kernel
theorem dX10_share_46 : decode cX10_share 46 = .ok (.iload_n 3, 1) := by decide +kernel
theorem dX10_share_47 : decode cX10_share 47 = .ok (.aload_n 0, 1) := by decide +kernel
theorem dX10_share_48 : decode cX10_share 48 = .ok (.getfield 32, 3) := by decide +kernel
theorem dX10_share_51 : decode cX10_share 51 = .ok (.iload 4, 2) := by decide +kernel
theorem dX10_share_53 : decode cX10_share 53 = .ok (.iaload, 1) := by decide +kernel
theorem dX10_share_54 : decode cX10_share 54 = .ok (.isub, 1) := by decide +kernel
theorem dX10_share_55 : decode cX10_share 55 = .ok (.istore_n 3, 1) := by decide +kernel
theorem dX10_share_56 : decode cX10_share 56 = .ok (.iinc 4 1, 3) := by decide +kernel
theorem dX10_share_59 : decode cX10_share 59 = .ok (.goto (-54), 3) := by decide +kernel
theorem dX10_share_62 : decode cX10_share 62 = .ok (.iconst 0, 1) := by decide +kernel
theorem dX10_share_63 : decode cX10_share 63 = .ok (.istore 4, 2) := by decide +kernel
theorem dX10_share_65 : decode cX10_share 65 = .ok (.iload 4, 2) := by decide +kernel
theorem dX10_share_67 : decode cX10_share 67 = .ok (.aload_n 0, 1) := by decide +kernel
theorem dX10_share_68 : decode cX10_share 68 = .ok (.getfield 13, 3) := by decide +kernel
theorem dX10_share_71 : decode cX10_share 71 = .ok (.iconst 3, 1) := by decide +kernel
theorem dX10_share_72 : decode cX10_share 72 = .ok (.iaload, 1) := by decide +kernel
theorem dX10_share_73 : decode cX10_share 73 = .ok (.if_icmp .ge 51, 3) := by decide +kernel
theorem dX10_share_76 : decode cX10_share 76 = .ok (.iload_n 2, 1) := by decide +kernel
theorem dX10_share_77 : decode cX10_share 77 = .ok (.ifCond .le 47, 3) := by decide +kernel
theorem dX10_share_80 : decode cX10_share 80 = .ok (.iload_n 3, 1) := by decide +kernel
theorem dX10_share_81 : decode cX10_share 81 = .ok (.ifCond .le 17, 3) := by decide +kernel
theorem dX10_share_84 : decode cX10_share 84 = .ok (.aload_n 0, 1) := by decide +kernel
theorem dX10_share_85 : decode cX10_share 85 = .ok (.getfield 29, 3) := by decide +kernel
theorem dX10_share_88 : decode cX10_share 88 = .ok (.iload 4, 2) := by decide +kernel
theorem dX10_share_90 : decode cX10_share 90 = .ok (.iaload, 1) := by decide +kernel
theorem dX10_share_91 : decode cX10_share 91 = .ok (.ifCond .le 7, 3) := by decide +kernel
theorem dX10_share_94 : decode cX10_share 94 = .ok (.iconst 1, 1) := by decide +kernel
theorem dX10_share_95 : decode cX10_share 95 = .ok (.goto 4, 3) := by decide +kernel
theorem dX10_share_98 : decode cX10_share 98 = .ok (.iconst 0, 1) := by decide +kernel
theorem dX10_share_99 : decode cX10_share 99 = .ok (.istore 5, 2) := by decide +kernel
theorem dX10_share_101 : decode cX10_share 101 = .ok (.aload_n 0, 1) := by decide +kernel
theorem dX10_share_102 : decode cX10_share 102 = .ok (.getfield 32, 3) := by decide +kernel
theorem dX10_share_105 : decode cX10_share 105 = .ok (.iload 4, 2) := by decide +kernel
theorem dX10_share_107 : decode cX10_share 107 = .ok (.dup2, 1) := by decide +kernel
theorem dX10_share_108 : decode cX10_share 108 = .ok (.iaload, 1) := by decide +kernel
theorem dX10_share_109 : decode cX10_share 109 = .ok (.iload 5, 2) := by decide +kernel
theorem dX10_share_111 : decode cX10_share 111 = .ok (.iadd, 1) := by decide +kernel
theorem dX10_share_112 : decode cX10_share 112 = .ok (.iastore, 1) := by decide +kernel
theorem dX10_share_113 : decode cX10_share 113 = .ok (.iload_n 3, 1) := by decide +kernel
theorem dX10_share_114 : decode cX10_share 114 = .ok (.iload 5, 2) := by decide +kernel
theorem dX10_share_116 : decode cX10_share 116 = .ok (.isub, 1) := by decide +kernel
theorem dX10_share_117 : decode cX10_share 117 = .ok (.istore_n 3, 1) := by decide +kernel
theorem dX10_share_118 : decode cX10_share 118 = .ok (.iinc 4 1, 3) := by decide +kernel
theorem dX10_share_121 : decode cX10_share 121 = .ok (.goto (-56), 3) := by decide +kernel
theorem dX10_share_124 : decode cX10_share 124 = .ok (.return_, 1) := by decide +kernel
theorem dX10_payInterest_0 : decode cX10_payInterest 0 = .ok (.aload_n 0, 1) := by decide +kernel
theorem dX10_payInterest_1 : decode cX10_payInterest 1 = .ok (.iload_n 2, 1) := by decide +kernel
theorem dX10_payInterest_2 : decode cX10_payInterest 2 = .ok (.aload_n 0, 1) := by decide +kernel
theorem dX10_payInterest_3 : decode cX10_payInterest 3 = .ok (.iload_n 1, 1) := by decide +kernel
theorem dX10_payInterest_4 : decode cX10_payInterest 4 = .ok (.iconst 2, 1) := by decide +kernel
theorem dX10_payInterest_5 : decode cX10_payInterest 5 = .ok (.invokevirtual 103, 3) := by decide +kernel
theorem dX10_payInterest_8 : decode cX10_payInterest 8 = .ok (.invokevirtual 106, 3) := by decide +kernel
theorem dX10_payInterest_11 : decode cX10_payInterest 11 = .ok (.iconst 0, 1) := by decide +kernel
theorem dX10_payInterest_12 : decode cX10_payInterest 12 = .ok (.istore_n 3, 1) := by decide +kernel
theorem dX10_payInterest_13 : decode cX10_payInterest 13 = .ok (.iload_n 3, 1) := by decide +kernel
theorem dX10_payInterest_14 : decode cX10_payInterest 14 = .ok (.aload_n 0, 1) := by decide +kernel
theorem dX10_payInterest_15 : decode cX10_payInterest 15 = .ok (.getfield 13, 3) := by decide +kernel
theorem dX10_payInterest_18 : decode cX10_payInterest 18 = .ok (.iconst 3, 1) := by decide +kernel
theorem dX10_payInterest_19 : decode cX10_payInterest 19 = .ok (.iaload, 1) := by decide +kernel
theorem dX10_payInterest_20 : decode cX10_payInterest 20 = .ok (.if_icmp .ge 64, 3) := by decide +kernel
theorem dX10_payInterest_23 : decode cX10_payInterest 23 = .ok (.aload_n 0, 1) := by decide +kernel
theorem dX10_payInterest_24 : decode cX10_payInterest 24 = .ok (.aload_n 0, 1) := by decide +kernel
theorem dX10_payInterest_25 : decode cX10_payInterest 25 = .ok (.iload_n 3, 1) := by decide +kernel
theorem dX10_payInterest_26 : decode cX10_payInterest 26 = .ok (.iconst 0, 1) := by decide +kernel
theorem dX10_payInterest_27 : decode cX10_payInterest 27 = .ok (.invokevirtual 78, 3) := by decide +kernel
theorem dX10_payInterest_30 : decode cX10_payInterest 30 = .ok (.aload_n 0, 1) := by decide +kernel
theorem dX10_payInterest_31 : decode cX10_payInterest 31 = .ok (.getfield 32, 3) := by decide +kernel
theorem dX10_payInterest_34 : decode cX10_payInterest 34 = .ok (.iload_n 3, 1) := by decide +kernel
theorem dX10_payInterest_35 : decode cX10_payInterest 35 = .ok (.iaload, 1) := by decide +kernel
theorem dX10_payInterest_36 : decode cX10_payInterest 36 = .ok (.invokevirtual 69, 3) := by decide +kernel
theorem dX10_payInterest_39 : decode cX10_payInterest 39 = .ok (.aload_n 0, 1) := by decide +kernel
theorem dX10_payInterest_40 : decode cX10_payInterest 40 = .ok (.getfield 13, 3) := by decide +kernel
theorem dX10_payInterest_43 : decode cX10_payInterest 43 = .ok (.bipush 10, 2) := by decide +kernel
theorem dX10_payInterest_45 : decode cX10_payInterest 45 = .ok (.iconst 3, 1) := by decide +kernel
theorem dX10_payInterest_46 : decode cX10_payInterest 46 = .ok (.aload_n 0, 1) := by decide +kernel
theorem dX10_payInterest_47 : decode cX10_payInterest 47 = .ok (.iload_n 3, 1) := by decide +kernel
theorem dX10_payInterest_48 : decode cX10_payInterest 48 = .ok (.iconst 0, 1) := by decide +kernel
theorem dX10_payInterest_49 : decode cX10_payInterest 49 = .ok (.invokevirtual 78, 3) := by decide +kernel
theorem dX10_payInterest_52 : decode cX10_payInterest 52 = .ok (.imul, 1) := by decide +kernel
theorem dX10_payInterest_53 : decode cX10_payInterest 53 = .ok (.iadd, 1) := by decide +kernel
theorem dX10_payInterest_54 : decode cX10_payInterest 54 = .ok (.iconst 1, 1) := by decide +kernel
theorem dX10_payInterest_55 : decode cX10_payInterest 55 = .ok (.iadd, 1) := by decide +kernel
theorem dX10_payInterest_56 : decode cX10_payInterest 56 = .ok (.dup2, 1) := by decide +kernel
theorem dX10_payInterest_57 : decode cX10_payInterest 57 = .ok (.iaload, 1) := by decide +kernel
theorem dX10_payInterest_58 : decode cX10_payInterest 58 = .ok (.aload_n 0, 1) := by decide +kernel
theorem dX10_payInterest_59 : decode cX10_payInterest 59 = .ok (.getfield 32, 3) := by decide +kernel
theorem dX10_payInterest_62 : decode cX10_payInterest 62 = .ok (.iload_n 3, 1) := by decide +kernel
theorem dX10_payInterest_63 : decode cX10_payInterest 63 = .ok (.iaload, 1) := by decide +kernel
theorem dX10_payInterest_64 : decode cX10_payInterest 64 = .ok (.iadd, 1) := by decide +kernel
theorem dX10_payInterest_65 : decode cX10_payInterest 65 = .ok (.iastore, 1) := by decide +kernel
theorem dX10_payInterest_66 : decode cX10_payInterest 66 = .ok (.aload_n 0, 1) := by decide +kernel
theorem dX10_payInterest_67 : decode cX10_payInterest 67 = .ok (.iload_n 3, 1) := by decide +kernel
theorem dX10_payInterest_68 : decode cX10_payInterest 68 = .ok (.iconst 5, 1) := by decide +kernel
theorem dX10_payInterest_69 : decode cX10_payInterest 69 = .ok (.aload_n 0, 1) := by decide +kernel
theorem dX10_payInterest_70 : decode cX10_payInterest 70 = .ok (.getfield 32, 3) := by decide +kernel
theorem dX10_payInterest_73 : decode cX10_payInterest 73 = .ok (.iload_n 3, 1) := by decide +kernel
theorem dX10_payInterest_74 : decode cX10_payInterest 74 = .ok (.iaload, 1) := by decide +kernel
theorem dX10_payInterest_75 : decode cX10_payInterest 75 = .ok (.invokevirtual 97, 3) := by decide +kernel
theorem dX10_payInterest_78 : decode cX10_payInterest 78 = .ok (.iinc 3 1, 3) := by decide +kernel
theorem dX10_payInterest_81 : decode cX10_payInterest 81 = .ok (.goto (-68), 3) := by decide +kernel
theorem dX10_payInterest_84 : decode cX10_payInterest 84 = .ok (.return_, 1) := by decide +kernel
theorem dX10_payPrincipal_0 : decode cX10_payPrincipal 0 = .ok (.aload_n 0, 1) := by decide +kernel
theorem dX10_payPrincipal_1 : decode cX10_payPrincipal 1 = .ok (.iload_n 1, 1) := by decide +kernel
theorem dX10_payPrincipal_2 : decode cX10_payPrincipal 2 = .ok (.iload_n 2, 1) := by decide +kernel
theorem dX10_payPrincipal_3 : decode cX10_payPrincipal 3 = .ok (.invokevirtual 103, 3) := by decide +kernel
theorem dX10_payPrincipal_6 : decode cX10_payPrincipal 6 = .ok (.istore 4, 2) := by decide +kernel
theorem dX10_payPrincipal_8 : decode cX10_payPrincipal 8 = .ok (.iload_n 3, 1) := by decide +kernel
theorem dX10_payPrincipal_9 : decode cX10_payPrincipal 9 = .ok (.iload 4, 2) := by decide +kernel
theorem dX10_payPrincipal_11 : decode cX10_payPrincipal 11 = .ok (.if_icmp .ge 7, 3) := by decide +kernel
theorem dX10_payPrincipal_14 : decode cX10_payPrincipal 14 = .ok (.iload_n 3, 1) := by decide +kernel
theorem dX10_payPrincipal_15 : decode cX10_payPrincipal 15 = .ok (.goto 5, 3) := by decide +kernel
theorem dX10_payPrincipal_18 : decode cX10_payPrincipal 18 = .ok (.iload 4, 2) := by decide +kernel
theorem dX10_payPrincipal_20 : decode cX10_payPrincipal 20 = .ok (.istore 5, 2) := by decide +kernel
theorem dX10_payPrincipal_22 : decode cX10_payPrincipal 22 = .ok (.aload_n 0, 1) := by decide +kernel
theorem dX10_payPrincipal_23 : decode cX10_payPrincipal 23 = .ok (.iload 5, 2) := by decide +kernel
theorem dX10_payPrincipal_25 : decode cX10_payPrincipal 25 = .ok (.iload 4, 2) := by decide +kernel
theorem dX10_payPrincipal_27 : decode cX10_payPrincipal 27 = .ok (.invokevirtual 106, 3) := by decide +kernel
theorem dX10_payPrincipal_30 : decode cX10_payPrincipal 30 = .ok (.iconst 0, 1) := by decide +kernel
theorem dX10_payPrincipal_31 : decode cX10_payPrincipal 31 = .ok (.istore 6, 2) := by decide +kernel
theorem dX10_payPrincipal_33 : decode cX10_payPrincipal 33 = .ok (.iload 6, 2) := by decide +kernel
theorem dX10_payPrincipal_35 : decode cX10_payPrincipal 35 = .ok (.aload_n 0, 1) := by decide +kernel
theorem dX10_payPrincipal_36 : decode cX10_payPrincipal 36 = .ok (.getfield 13, 3) := by decide +kernel
theorem dX10_payPrincipal_39 : decode cX10_payPrincipal 39 = .ok (.iconst 3, 1) := by decide +kernel
theorem dX10_payPrincipal_40 : decode cX10_payPrincipal 40 = .ok (.iaload, 1) := by decide +kernel
theorem dX10_payPrincipal_41 : decode cX10_payPrincipal 41 = .ok (.if_icmp .ge 42, 3) := by decide +kernel
theorem dX10_payPrincipal_44 : decode cX10_payPrincipal 44 = .ok (.aload_n 0, 1) := by decide +kernel
theorem dX10_payPrincipal_45 : decode cX10_payPrincipal 45 = .ok (.aload_n 0, 1) := by decide +kernel
theorem dX10_payPrincipal_46 : decode cX10_payPrincipal 46 = .ok (.iload 6, 2) := by decide +kernel
theorem dX10_payPrincipal_48 : decode cX10_payPrincipal 48 = .ok (.iconst 0, 1) := by decide +kernel
theorem dX10_payPrincipal_49 : decode cX10_payPrincipal 49 = .ok (.invokevirtual 78, 3) := by decide +kernel
theorem dX10_payPrincipal_52 : decode cX10_payPrincipal 52 = .ok (.aload_n 0, 1) := by decide +kernel
theorem dX10_payPrincipal_53 : decode cX10_payPrincipal 53 = .ok (.getfield 32, 3) := by decide +kernel
theorem dX10_payPrincipal_56 : decode cX10_payPrincipal 56 = .ok (.iload 6, 2) := by decide +kernel
theorem dX10_payPrincipal_58 : decode cX10_payPrincipal 58 = .ok (.iaload, 1) := by decide +kernel
theorem dX10_payPrincipal_59 : decode cX10_payPrincipal 59 = .ok (.invokevirtual 69, 3) := by decide +kernel
theorem dX10_payPrincipal_62 : decode cX10_payPrincipal 62 = .ok (.aload_n 0, 1) := by decide +kernel
theorem dX10_payPrincipal_63 : decode cX10_payPrincipal 63 = .ok (.iload 6, 2) := by decide +kernel
theorem dX10_payPrincipal_65 : decode cX10_payPrincipal 65 = .ok (.iconst 3, 1) := by decide +kernel
theorem dX10_payPrincipal_66 : decode cX10_payPrincipal 66 = .ok (.aload_n 0, 1) := by decide +kernel
theorem dX10_payPrincipal_67 : decode cX10_payPrincipal 67 = .ok (.getfield 32, 3) := by decide +kernel
theorem dX10_payPrincipal_70 : decode cX10_payPrincipal 70 = .ok (.iload 6, 2) := by decide +kernel
theorem dX10_payPrincipal_72 : decode cX10_payPrincipal 72 = .ok (.iaload, 1) := by decide +kernel
theorem dX10_payPrincipal_73 : decode cX10_payPrincipal 73 = .ok (.ineg, 1) := by decide +kernel
theorem dX10_payPrincipal_74 : decode cX10_payPrincipal 74 = .ok (.invokevirtual 97, 3) := by decide +kernel
theorem dX10_payPrincipal_77 : decode cX10_payPrincipal 77 = .ok (.iinc 6 1, 3) := by decide +kernel
theorem dX10_payPrincipal_80 : decode cX10_payPrincipal 80 = .ok (.goto (-47), 3) := by decide +kernel
theorem dX10_payPrincipal_83 : decode cX10_payPrincipal 83 = .ok (.iload_n 3, 1) := by decide +kernel
theorem dX10_payPrincipal_84 : decode cX10_payPrincipal 84 = .ok (.iload 5, 2) := by decide +kernel
theorem dX10_payPrincipal_86 : decode cX10_payPrincipal 86 = .ok (.isub, 1) := by decide +kernel
theorem dX10_payPrincipal_87 : decode cX10_payPrincipal 87 = .ok (.ireturn, 1) := by decide +kernel
theorem dX10_feeFor_0 : decode cX10_feeFor 0 = .ok (.iload_n 2, 1) := by decide +kernel
theorem dX10_feeFor_1 : decode cX10_feeFor 1 = .ok (.i2l, 1) := by decide +kernel
theorem dX10_feeFor_2 : decode cX10_feeFor 2 = .ok (.aload_n 0, 1) := by decide +kernel
theorem dX10_feeFor_3 : decode cX10_feeFor 3 = .ok (.iload_n 1, 1) := by decide +kernel
theorem dX10_feeFor_4 : decode cX10_feeFor 4 = .ok (.bipush 9, 2) := by decide +kernel
theorem dX10_feeFor_6 : decode cX10_feeFor 6 = .ok (.invokevirtual 42, 3) := by decide +kernel
theorem dX10_feeFor_9 : decode cX10_feeFor 9 = .ok (.invokestatic 109, 3) := by decide +kernel
theorem dX10_feeFor_12 : decode cX10_feeFor 12 = .ok (.i2l, 1) := by decide +kernel
theorem dX10_feeFor_13 : decode cX10_feeFor 13 = .ok (.lmul, 1) := by decide +kernel
theorem dX10_feeFor_14 : decode cX10_feeFor 14 = .ok (.ldc2_w 112, 3) := by decide +kernel
theorem dX10_feeFor_17 : decode cX10_feeFor 17 = .ok (.ldiv, 1) := by decide +kernel
theorem dX10_feeFor_18 : decode cX10_feeFor 18 = .ok (.l2i, 1) := by decide +kernel
theorem dX10_feeFor_19 : decode cX10_feeFor 19 = .ok (.ireturn, 1) := by decide +kernel
theorem dX10_canPay_0 : decode cX10_canPay 0 = .ok (.aload_n 0, 1) := by decide +kernel
theorem dX10_canPay_1 : decode cX10_canPay 1 = .ok (.iload_n 1, 1) := by decide +kernel
theorem dX10_canPay_2 : decode cX10_canPay 2 = .ok (.invokevirtual 114, 3) := by decide +kernel
theorem dX10_canPay_5 : decode cX10_canPay 5 = .ok (.ifCond .eq 32, 3) := by decide +kernel
theorem dX10_canPay_8 : decode cX10_canPay 8 = .ok (.iload_n 2, 1) := by decide +kernel
theorem dX10_canPay_9 : decode cX10_canPay 9 = .ok (.aload_n 0, 1) := by decide +kernel
theorem dX10_canPay_10 : decode cX10_canPay 10 = .ok (.iload_n 1, 1) := by decide +kernel
theorem dX10_canPay_11 : decode cX10_canPay 11 = .ok (.iload_n 2, 1) := by decide +kernel
theorem dX10_canPay_12 : decode cX10_canPay 12 = .ok (.invokevirtual 117, 3) := by decide +kernel
theorem dX10_canPay_15 : decode cX10_canPay 15 = .ok (.isub, 1) := by decide +kernel
theorem dX10_canPay_16 : decode cX10_canPay 16 = .ok (.aload_n 0, 1) := by decide +kernel
theorem dX10_canPay_17 : decode cX10_canPay 17 = .ok (.iload_n 1, 1) := by decide +kernel
theorem dX10_canPay_18 : decode cX10_canPay 18 = .ok (.bipush 6, 2) := by decide +kernel
theorem dX10_canPay_20 : decode cX10_canPay 20 = .ok (.invokevirtual 42, 3) := by decide +kernel
theorem dX10_canPay_23 : decode cX10_canPay 23 = .ok (.aload_n 0, 1) := by decide +kernel
theorem dX10_canPay_24 : decode cX10_canPay 24 = .ok (.iload_n 1, 1) := by decide +kernel
theorem dX10_canPay_25 : decode cX10_canPay 25 = .ok (.iconst 4, 1) := by decide +kernel
theorem dX10_canPay_26 : decode cX10_canPay 26 = .ok (.invokevirtual 42, 3) := by decide +kernel
theorem dX10_canPay_29 : decode cX10_canPay 29 = .ok (.iadd, 1) := by decide +kernel
theorem dX10_canPay_30 : decode cX10_canPay 30 = .ok (.if_icmp .gt 7, 3) := by decide +kernel
theorem dX10_canPay_33 : decode cX10_canPay 33 = .ok (.iconst 1, 1) := by decide +kernel
theorem dX10_canPay_34 : decode cX10_canPay 34 = .ok (.goto 4, 3) := by decide +kernel
theorem dX10_canPay_37 : decode cX10_canPay 37 = .ok (.iconst 0, 1) := by decide +kernel
theorem dX10_canPay_38 : decode cX10_canPay 38 = .ok (.ireturn, 1) := by decide +kernel
theorem dX10_splitBy_0 : decode cX10_splitBy 0 = .ok (.aload_n 0, 1) := by decide +kernel
theorem dX10_splitBy_1 : decode cX10_splitBy 1 = .ok (.iload_n 1, 1) := by decide +kernel
theorem dX10_splitBy_2 : decode cX10_splitBy 2 = .ok (.iload_n 2, 1) := by decide +kernel
theorem dX10_splitBy_3 : decode cX10_splitBy 3 = .ok (.invokevirtual 117, 3) := by decide +kernel
theorem dX10_splitBy_6 : decode cX10_splitBy 6 = .ok (.istore 4, 2) := by decide +kernel
theorem dX10_splitBy_8 : decode cX10_splitBy 8 = .ok (.iload_n 2, 1) := by decide +kernel
theorem dX10_splitBy_9 : decode cX10_splitBy 9 = .ok (.iload 4, 2) := by decide +kernel
theorem dX10_splitBy_11 : decode cX10_splitBy 11 = .ok (.isub, 1) := by decide +kernel
theorem dX10_splitBy_12 : decode cX10_splitBy 12 = .ok (.aload_n 0, 1) := by decide +kernel
theorem dX10_splitBy_13 : decode cX10_splitBy 13 = .ok (.iload_n 1, 1) := by decide +kernel
theorem dX10_splitBy_14 : decode cX10_splitBy 14 = .ok (.bipush 6, 2) := by decide +kernel
theorem dX10_splitBy_16 : decode cX10_splitBy 16 = .ok (.invokevirtual 42, 3) := by decide +kernel
theorem dX10_splitBy_19 : decode cX10_splitBy 19 = .ok (.if_icmp .ge 10, 3) := by decide +kernel
theorem dX10_splitBy_22 : decode cX10_splitBy 22 = .ok (.iload_n 2, 1) := by decide +kernel
theorem dX10_splitBy_23 : decode cX10_splitBy 23 = .ok (.iload 4, 2) := by decide +kernel
theorem dX10_splitBy_25 : decode cX10_splitBy 25 = .ok (.isub, 1) := by decide +kernel
theorem dX10_splitBy_26 : decode cX10_splitBy 26 = .ok (.goto 10, 3) := by decide +kernel
theorem dX10_splitBy_29 : decode cX10_splitBy 29 = .ok (.aload_n 0, 1) := by decide +kernel
theorem dX10_splitBy_30 : decode cX10_splitBy 30 = .ok (.iload_n 1, 1) := by decide +kernel
theorem dX10_splitBy_31 : decode cX10_splitBy 31 = .ok (.bipush 6, 2) := by decide +kernel
theorem dX10_splitBy_33 : decode cX10_splitBy 33 = .ok (.invokevirtual 42, 3) := by decide +kernel
theorem dX10_splitBy_36 : decode cX10_splitBy 36 = .ok (.istore 5, 2) := by decide +kernel
theorem dX10_splitBy_38 : decode cX10_splitBy 38 = .ok (.iload_n 2, 1) := by decide +kernel
theorem dX10_splitBy_39 : decode cX10_splitBy 39 = .ok (.iload 4, 2) := by decide +kernel
theorem dX10_splitBy_41 : decode cX10_splitBy 41 = .ok (.isub, 1) := by decide +kernel
theorem dX10_splitBy_42 : decode cX10_splitBy 42 = .ok (.iload 5, 2) := by decide +kernel
theorem dX10_splitBy_44 : decode cX10_splitBy 44 = .ok (.isub, 1) := by decide +kernel
theorem dX10_splitBy_45 : decode cX10_splitBy 45 = .ok (.istore 6, 2) := by decide +kernel
theorem dX10_splitBy_47 : decode cX10_splitBy 47 = .ok (.aload_n 0, 1) := by decide +kernel
theorem dX10_splitBy_48 : decode cX10_splitBy 48 = .ok (.iload_n 1, 1) := by decide +kernel
theorem dX10_splitBy_49 : decode cX10_splitBy 49 = .ok (.iconst 0, 1) := by decide +kernel
theorem dX10_splitBy_50 : decode cX10_splitBy 50 = .ok (.invokevirtual 81, 3) := by decide +kernel
theorem dX10_splitBy_53 : decode cX10_splitBy 53 = .ok (.istore 7, 2) := by decide +kernel
theorem dX10_splitBy_55 : decode cX10_splitBy 55 = .ok (.iload 6, 2) := by decide +kernel
theorem dX10_splitBy_57 : decode cX10_splitBy 57 = .ok (.iload 7, 2) := by decide +kernel
theorem dX10_splitBy_59 : decode cX10_splitBy 59 = .ok (.if_icmp .ge 8, 3) := by decide +kernel
theorem dX10_splitBy_62 : decode cX10_splitBy 62 = .ok (.iload 6, 2) := by decide +kernel
theorem dX10_splitBy_64 : decode cX10_splitBy 64 = .ok (.goto 5, 3) := by decide +kernel
theorem dX10_splitBy_67 : decode cX10_splitBy 67 = .ok (.iload 7, 2) := by decide +kernel
theorem dX10_splitBy_69 : decode cX10_splitBy 69 = .ok (.istore 8, 2) := by decide +kernel
theorem dX10_splitBy_71 : decode cX10_splitBy 71 = .ok (.iload_n 3, 1) := by decide +kernel
theorem dX10_splitBy_72 : decode cX10_splitBy 72 = .ok (.tableswitch 65 0 4 #[36, 39, 42, 59, 62], 36) := by decide +kernel
theorem dX10_splitBy_108 : decode cX10_splitBy 108 = .ok (.iload 4, 2) := by decide +kernel
theorem dX10_splitBy_110 : decode cX10_splitBy 110 = .ok (.ireturn, 1) := by decide +kernel
theorem dX10_splitBy_111 : decode cX10_splitBy 111 = .ok (.iload 5, 2) := by decide +kernel
theorem dX10_splitBy_113 : decode cX10_splitBy 113 = .ok (.ireturn, 1) := by decide +kernel
theorem dX10_splitBy_114 : decode cX10_splitBy 114 = .ok (.iload 5, 2) := by decide +kernel
theorem dX10_splitBy_116 : decode cX10_splitBy 116 = .ok (.i2l, 1) := by decide +kernel
theorem dX10_splitBy_117 : decode cX10_splitBy 117 = .ok (.aload_n 0, 1) := by decide +kernel
theorem dX10_splitBy_118 : decode cX10_splitBy 118 = .ok (.getfield 13, 3) := by decide +kernel
theorem dX10_splitBy_121 : decode cX10_splitBy 121 = .ok (.iconst 5, 1) := by decide +kernel
theorem dX10_splitBy_122 : decode cX10_splitBy 122 = .ok (.iaload, 1) := by decide +kernel
theorem dX10_splitBy_123 : decode cX10_splitBy 123 = .ok (.i2l, 1) := by decide +kernel
theorem dX10_splitBy_124 : decode cX10_splitBy 124 = .ok (.lmul, 1) := by decide +kernel
theorem dX10_splitBy_125 : decode cX10_splitBy 125 = .ok (.ldc2_w 120, 3) := by decide +kernel
theorem dX10_splitBy_128 : decode cX10_splitBy 128 = .ok (.ldiv, 1) := by decide +kernel
theorem dX10_splitBy_129 : decode cX10_splitBy 129 = .ok (.l2i, 1) := by decide +kernel
theorem dX10_splitBy_130 : decode cX10_splitBy 130 = .ok (.ireturn, 1) := by decide +kernel
theorem dX10_splitBy_131 : decode cX10_splitBy 131 = .ok (.iload 6, 2) := by decide +kernel
theorem dX10_splitBy_133 : decode cX10_splitBy 133 = .ok (.ireturn, 1) := by decide +kernel
theorem dX10_splitBy_134 : decode cX10_splitBy 134 = .ok (.iload 8, 2) := by decide +kernel
theorem dX10_splitBy_136 : decode cX10_splitBy 136 = .ok (.ireturn, 1) := by decide +kernel
theorem dX10_splitBy_137 : decode cX10_splitBy 137 = .ok (.iload 6, 2) := by decide +kernel
theorem dX10_splitBy_139 : decode cX10_splitBy 139 = .ok (.iload 8, 2) := by decide +kernel
theorem dX10_splitBy_141 : decode cX10_splitBy 141 = .ok (.isub, 1) := by decide +kernel
theorem dX10_splitBy_142 : decode cX10_splitBy 142 = .ok (.ireturn, 1) := by decide +kernel
theorem dX10_pay_0 : decode cX10_pay 0 = .ok (.aload_n 0, 1) := by decide +kernel
theorem dX10_pay_1 : decode cX10_pay 1 = .ok (.invokevirtual 58, 3) := by decide +kernel
theorem dX10_pay_4 : decode cX10_pay 4 = .ok (.aload_n 0, 1) := by decide +kernel
theorem dX10_pay_5 : decode cX10_pay 5 = .ok (.iload_n 1, 1) := by decide +kernel
theorem dX10_pay_6 : decode cX10_pay 6 = .ok (.invokevirtual 84, 3) := by decide +kernel
theorem dX10_pay_9 : decode cX10_pay 9 = .ok (.ifCond .ne 5, 3) := by decide +kernel
theorem dX10_pay_12 : decode cX10_pay 12 = .ok (.iconst (-1), 1) := by decide +kernel
theorem dX10_pay_13 : decode cX10_pay 13 = .ok (.ireturn, 1) := by decide +kernel
theorem dX10_pay_14 : decode cX10_pay 14 = .ok (.iload_n 2, 1) := by decide +kernel
theorem dX10_pay_15 : decode cX10_pay 15 = .ok (.iconst 1, 1) := by decide +kernel
theorem dX10_pay_16 : decode cX10_pay 16 = .ok (.ldc 122, 2) := by decide +kernel
theorem dX10_pay_18 : decode cX10_pay 18 = .ok (.invokestatic 38, 3) := by decide +kernel
theorem dX10_pay_21 : decode cX10_pay 21 = .ok (.ifCond .ne 6, 3) := by decide +kernel
theorem dX10_pay_24 : decode cX10_pay 24 = .ok (.bipush (-2), 2) := by decide +kernel
theorem dX10_pay_26 : decode cX10_pay 26 = .ok (.ireturn, 1) := by decide +kernel
theorem dX10_pay_27 : decode cX10_pay 27 = .ok (.aload_n 0, 1) := by decide +kernel
theorem dX10_pay_28 : decode cX10_pay 28 = .ok (.iload_n 1, 1) := by decide +kernel
theorem dX10_pay_29 : decode cX10_pay 29 = .ok (.iload_n 2, 1) := by decide +kernel
theorem dX10_pay_30 : decode cX10_pay 30 = .ok (.invokevirtual 123, 3) := by decide +kernel
theorem dX10_pay_33 : decode cX10_pay 33 = .ok (.ifCond .ne 6, 3) := by decide +kernel
theorem dX10_pay_36 : decode cX10_pay 36 = .ok (.bipush (-4), 2) := by decide +kernel
theorem dX10_pay_38 : decode cX10_pay 38 = .ok (.ireturn, 1) := by decide +kernel
theorem dX10_pay_39 : decode cX10_pay 39 = .ok (.aload_n 0, 1) := by decide +kernel
theorem dX10_pay_40 : decode cX10_pay 40 = .ok (.iload_n 1, 1) := by decide +kernel
theorem dX10_pay_41 : decode cX10_pay 41 = .ok (.iload_n 2, 1) := by decide +kernel
theorem dX10_pay_42 : decode cX10_pay 42 = .ok (.iconst 1, 1) := by decide +kernel
theorem dX10_pay_43 : decode cX10_pay 43 = .ok (.invokevirtual 127, 3) := by decide +kernel
theorem dX10_pay_46 : decode cX10_pay 46 = .ok (.istore_n 3, 1) := by decide +kernel
theorem dX10_pay_47 : decode cX10_pay 47 = .ok (.aload_n 0, 1) := by decide +kernel
theorem dX10_pay_48 : decode cX10_pay 48 = .ok (.iload_n 1, 1) := by decide +kernel
theorem dX10_pay_49 : decode cX10_pay 49 = .ok (.iload_n 2, 1) := by decide +kernel
theorem dX10_pay_50 : decode cX10_pay 50 = .ok (.iconst 2, 1) := by decide +kernel
theorem dX10_pay_51 : decode cX10_pay 51 = .ok (.invokevirtual 127, 3) := by decide +kernel
theorem dX10_pay_54 : decode cX10_pay 54 = .ok (.istore 4, 2) := by decide +kernel
theorem dX10_pay_56 : decode cX10_pay 56 = .ok (.aload_n 0, 1) := by decide +kernel
theorem dX10_pay_57 : decode cX10_pay 57 = .ok (.iload_n 1, 1) := by decide +kernel
theorem dX10_pay_58 : decode cX10_pay 58 = .ok (.iload_n 2, 1) := by decide +kernel
theorem dX10_pay_59 : decode cX10_pay 59 = .ok (.iconst 3, 1) := by decide +kernel
theorem dX10_pay_60 : decode cX10_pay 60 = .ok (.invokevirtual 127, 3) := by decide +kernel
theorem dX10_pay_63 : decode cX10_pay 63 = .ok (.istore 5, 2) := by decide +kernel
theorem dX10_pay_65 : decode cX10_pay 65 = .ok (.aload_n 0, 1) := by decide +kernel
theorem dX10_pay_66 : decode cX10_pay 66 = .ok (.getfield 13, 3) := by decide +kernel
theorem dX10_pay_69 : decode cX10_pay 69 = .ok (.bipush 6, 2) := by decide +kernel
theorem dX10_pay_71 : decode cX10_pay 71 = .ok (.aload_n 0, 1) := by decide +kernel
theorem dX10_pay_72 : decode cX10_pay 72 = .ok (.iload_n 1, 1) := by decide +kernel
theorem dX10_pay_73 : decode cX10_pay 73 = .ok (.bipush 9, 2) := by decide +kernel
theorem dX10_pay_75 : decode cX10_pay 75 = .ok (.invokevirtual 42, 3) := by decide +kernel
theorem dX10_pay_78 : decode cX10_pay 78 = .ok (.iadd, 1) := by decide +kernel
theorem dX10_pay_79 : decode cX10_pay 79 = .ok (.dup2, 1) := by decide +kernel
theorem dX10_pay_80 : decode cX10_pay 80 = .ok (.iaload, 1) := by decide +kernel
theorem dX10_pay_81 : decode cX10_pay 81 = .ok (.aload_n 0, 1) := by decide +kernel
theorem dX10_pay_82 : decode cX10_pay 82 = .ok (.iload_n 1, 1) := by decide +kernel
theorem dX10_pay_83 : decode cX10_pay 83 = .ok (.iload_n 2, 1) := by decide +kernel
theorem dX10_pay_84 : decode cX10_pay 84 = .ok (.iconst 0, 1) := by decide +kernel
theorem dX10_pay_85 : decode cX10_pay 85 = .ok (.invokevirtual 127, 3) := by decide +kernel
theorem dX10_pay_88 : decode cX10_pay 88 = .ok (.iadd, 1) := by decide +kernel
theorem dX10_pay_89 : decode cX10_pay 89 = .ok (.iastore, 1) := by decide +kernel
theorem dX10_pay_90 : decode cX10_pay 90 = .ok (.aload_n 0, 1) := by decide +kernel
theorem dX10_pay_91 : decode cX10_pay 91 = .ok (.getfield 13, 3) := by decide +kernel
theorem dX10_pay_94 : decode cX10_pay 94 = .ok (.iconst 4, 1) := by decide +kernel
theorem dX10_pay_95 : decode cX10_pay 95 = .ok (.dup2, 1) := by decide +kernel
theorem dX10_pay_96 : decode cX10_pay 96 = .ok (.iaload, 1) := by decide +kernel
theorem dX10_pay_97 : decode cX10_pay 97 = .ok (.iload 4, 2) := by decide +kernel
theorem dX10_pay_99 : decode cX10_pay 99 = .ok (.iadd, 1) := by decide +kernel
theorem dX10_pay_100 : decode cX10_pay 100 = .ok (.iastore, 1) := by decide +kernel
theorem dX10_pay_101 : decode cX10_pay 101 = .ok (.aload_n 0, 1) := by decide +kernel
theorem dX10_pay_102 : decode cX10_pay 102 = .ok (.iload_n 1, 1) := by decide +kernel
theorem dX10_pay_103 : decode cX10_pay 103 = .ok (.iload_n 3, 1) := by decide +kernel
theorem dX10_pay_104 : decode cX10_pay 104 = .ok (.iload 4, 2) := by decide +kernel
theorem dX10_pay_106 : decode cX10_pay 106 = .ok (.isub, 1) := by decide +kernel
theorem dX10_pay_107 : decode cX10_pay 107 = .ok (.invokevirtual 131, 3) := by decide +kernel
theorem dX10_pay_110 : decode cX10_pay 110 = .ok (.aload_n 0, 1) := by decide +kernel
theorem dX10_pay_111 : decode cX10_pay 111 = .ok (.iload_n 1, 1) := by decide +kernel
theorem dX10_pay_112 : decode cX10_pay 112 = .ok (.iconst 1, 1) := by decide +kernel
theorem dX10_pay_113 : decode cX10_pay 113 = .ok (.aload_n 0, 1) := by decide +kernel
theorem dX10_pay_114 : decode cX10_pay 114 = .ok (.iload_n 1, 1) := by decide +kernel
theorem dX10_pay_115 : decode cX10_pay 115 = .ok (.iconst 0, 1) := by decide +kernel
theorem dX10_pay_116 : decode cX10_pay 116 = .ok (.iload 5, 2) := by decide +kernel
theorem dX10_pay_118 : decode cX10_pay 118 = .ok (.invokevirtual 134, 3) := by decide +kernel
theorem dX10_pay_121 : decode cX10_pay 121 = .ok (.invokevirtual 134, 3) := by decide +kernel
theorem dX10_pay_124 : decode cX10_pay 124 = .ok (.pop, 1) := by decide +kernel
theorem dX10_pay_125 : decode cX10_pay 125 = .ok (.aload_n 0, 1) := by decide +kernel
theorem dX10_pay_126 : decode cX10_pay 126 = .ok (.iload_n 1, 1) := by decide +kernel
theorem dX10_pay_127 : decode cX10_pay 127 = .ok (.bipush 6, 2) := by decide +kernel
theorem dX10_pay_129 : decode cX10_pay 129 = .ok (.aload_n 0, 1) := by decide +kernel
theorem dX10_pay_130 : decode cX10_pay 130 = .ok (.iload_n 1, 1) := by decide +kernel
theorem dX10_pay_131 : decode cX10_pay 131 = .ok (.bipush 6, 2) := by decide +kernel
theorem dX10_pay_133 : decode cX10_pay 133 = .ok (.invokevirtual 42, 3) := by decide +kernel
theorem dX10_pay_136 : decode cX10_pay 136 = .ok (.iload_n 3, 1) := by decide +kernel
theorem dX10_pay_137 : decode cX10_pay 137 = .ok (.isub, 1) := by decide +kernel
theorem dX10_pay_138 : decode cX10_pay 138 = .ok (.invokevirtual 74, 3) := by decide +kernel
theorem dX10_pay_141 : decode cX10_pay 141 = .ok (.aload_n 0, 1) := by decide +kernel
theorem dX10_pay_142 : decode cX10_pay 142 = .ok (.iload_n 1, 1) := by decide +kernel
theorem dX10_pay_143 : decode cX10_pay 143 = .ok (.iconst 4, 1) := by decide +kernel
theorem dX10_pay_144 : decode cX10_pay 144 = .ok (.aload_n 0, 1) := by decide +kernel
theorem dX10_pay_145 : decode cX10_pay 145 = .ok (.iload_n 1, 1) := by decide +kernel
theorem dX10_pay_146 : decode cX10_pay 146 = .ok (.iconst 4, 1) := by decide +kernel
theorem dX10_pay_147 : decode cX10_pay 147 = .ok (.invokevirtual 42, 3) := by decide +kernel
theorem dX10_pay_150 : decode cX10_pay 150 = .ok (.iload 5, 2) := by decide +kernel
theorem dX10_pay_152 : decode cX10_pay 152 = .ok (.isub, 1) := by decide +kernel
theorem dX10_pay_153 : decode cX10_pay 153 = .ok (.invokevirtual 74, 3) := by decide +kernel
theorem dX10_pay_156 : decode cX10_pay 156 = .ok (.aload_n 0, 1) := by decide +kernel
theorem dX10_pay_157 : decode cX10_pay 157 = .ok (.iload_n 1, 1) := by decide +kernel
theorem dX10_pay_158 : decode cX10_pay 158 = .ok (.bipush 7, 2) := by decide +kernel
theorem dX10_pay_160 : decode cX10_pay 160 = .ok (.aload_n 0, 1) := by decide +kernel
theorem dX10_pay_161 : decode cX10_pay 161 = .ok (.iload_n 1, 1) := by decide +kernel
theorem dX10_pay_162 : decode cX10_pay 162 = .ok (.bipush 7, 2) := by decide +kernel
theorem dX10_pay_164 : decode cX10_pay 164 = .ok (.invokevirtual 42, 3) := by decide +kernel
theorem dX10_pay_167 : decode cX10_pay 167 = .ok (.iload 5, 2) := by decide +kernel
theorem dX10_pay_169 : decode cX10_pay 169 = .ok (.if_icmp .le 16, 3) := by decide +kernel
theorem dX10_pay_172 : decode cX10_pay 172 = .ok (.aload_n 0, 1) := by decide +kernel
theorem dX10_pay_173 : decode cX10_pay 173 = .ok (.iload_n 1, 1) := by decide +kernel
theorem dX10_pay_174 : decode cX10_pay 174 = .ok (.bipush 7, 2) := by decide +kernel
theorem dX10_pay_176 : decode cX10_pay 176 = .ok (.invokevirtual 42, 3) := by decide +kernel
theorem dX10_pay_179 : decode cX10_pay 179 = .ok (.iload 5, 2) := by decide +kernel
theorem dX10_pay_181 : decode cX10_pay 181 = .ok (.isub, 1) := by decide +kernel
theorem dX10_pay_182 : decode cX10_pay 182 = .ok (.goto 4, 3) := by decide +kernel
theorem dX10_pay_185 : decode cX10_pay 185 = .ok (.iconst 0, 1) := by decide +kernel
theorem dX10_pay_186 : decode cX10_pay 186 = .ok (.invokevirtual 74, 3) := by decide +kernel
theorem dX10_pay_189 : decode cX10_pay 189 = .ok (.aload_n 0, 1) := by decide +kernel
theorem dX10_pay_190 : decode cX10_pay 190 = .ok (.iload_n 1, 1) := by decide +kernel
theorem dX10_pay_191 : decode cX10_pay 191 = .ok (.bipush 8, 2) := by decide +kernel
theorem dX10_pay_193 : decode cX10_pay 193 = .ok (.aload_n 0, 1) := by decide +kernel
theorem dX10_pay_194 : decode cX10_pay 194 = .ok (.iload_n 1, 1) := by decide +kernel
theorem dX10_pay_195 : decode cX10_pay 195 = .ok (.bipush 6, 2) := by decide +kernel
theorem dX10_pay_197 : decode cX10_pay 197 = .ok (.invokevirtual 42, 3) := by decide +kernel
theorem dX10_pay_200 : decode cX10_pay 200 = .ok (.aload_n 0, 1) := by decide +kernel
theorem dX10_pay_201 : decode cX10_pay 201 = .ok (.iload_n 1, 1) := by decide +kernel
theorem dX10_pay_202 : decode cX10_pay 202 = .ok (.bipush 7, 2) := by decide +kernel
theorem dX10_pay_204 : decode cX10_pay 204 = .ok (.invokevirtual 42, 3) := by decide +kernel
theorem dX10_pay_207 : decode cX10_pay 207 = .ok (.iadd, 1) := by decide +kernel
theorem dX10_pay_208 : decode cX10_pay 208 = .ok (.ifCond .ne 7, 3) := by decide +kernel
theorem dX10_pay_211 : decode cX10_pay 211 = .ok (.iconst 0, 1) := by decide +kernel
theorem dX10_pay_212 : decode cX10_pay 212 = .ok (.goto 10, 3) := by decide +kernel
theorem dX10_pay_215 : decode cX10_pay 215 = .ok (.aload_n 0, 1) := by decide +kernel
theorem dX10_pay_216 : decode cX10_pay 216 = .ok (.iload_n 1, 1) := by decide +kernel
theorem dX10_pay_217 : decode cX10_pay 217 = .ok (.bipush 8, 2) := by decide +kernel
theorem dX10_pay_219 : decode cX10_pay 219 = .ok (.invokevirtual 42, 3) := by decide +kernel
theorem dX10_pay_222 : decode cX10_pay 222 = .ok (.invokevirtual 74, 3) := by decide +kernel
theorem dX10_pay_225 : decode cX10_pay 225 = .ok (.aload_n 0, 1) := by decide +kernel
theorem dX10_pay_226 : decode cX10_pay 226 = .ok (.iload_n 1, 1) := by decide +kernel
theorem dX10_pay_227 : decode cX10_pay 227 = .ok (.iconst 4, 1) := by decide +kernel
theorem dX10_pay_228 : decode cX10_pay 228 = .ok (.invokevirtual 42, 3) := by decide +kernel
theorem dX10_pay_231 : decode cX10_pay 231 = .ok (.aload_n 0, 1) := by decide +kernel
theorem dX10_pay_232 : decode cX10_pay 232 = .ok (.iload_n 1, 1) := by decide +kernel
theorem dX10_pay_233 : decode cX10_pay 233 = .ok (.bipush 6, 2) := by decide +kernel
theorem dX10_pay_235 : decode cX10_pay 235 = .ok (.invokevirtual 42, 3) := by decide +kernel
theorem dX10_pay_238 : decode cX10_pay 238 = .ok (.iadd, 1) := by decide +kernel
theorem dX10_pay_239 : decode cX10_pay 239 = .ok (.ifCond .ne 9, 3) := by decide +kernel
theorem dX10_pay_242 : decode cX10_pay 242 = .ok (.aload_n 0, 1) := by decide +kernel
theorem dX10_pay_243 : decode cX10_pay 243 = .ok (.iload_n 1, 1) := by decide +kernel
theorem dX10_pay_244 : decode cX10_pay 244 = .ok (.iconst 2, 1) := by decide +kernel
theorem dX10_pay_245 : decode cX10_pay 245 = .ok (.invokevirtual 100, 3) := by decide +kernel
theorem dX10_pay_248 : decode cX10_pay 248 = .ok (.aload_n 0, 1) := by decide +kernel
theorem dX10_pay_249 : decode cX10_pay 249 = .ok (.aload_n 0, 1) := by decide +kernel
theorem dX10_pay_250 : decode cX10_pay 250 = .ok (.iload_n 1, 1) := by decide +kernel
theorem dX10_pay_251 : decode cX10_pay 251 = .ok (.iconst 4, 1) := by decide +kernel
theorem dX10_pay_252 : decode cX10_pay 252 = .ok (.invokevirtual 42, 3) := by decide +kernel
theorem dX10_pay_255 : decode cX10_pay 255 = .ok (.invokevirtual 61, 3) := by decide +kernel
theorem dX10_pay_258 : decode cX10_pay 258 = .ok (.ireturn, 1) := by decide +kernel
theorem dX10_cure_0 : decode cX10_cure 0 = .ok (.aload_n 0, 1) := by decide +kernel
theorem dX10_cure_1 : decode cX10_cure 1 = .ok (.invokevirtual 58, 3) := by decide +kernel
theorem dX10_cure_4 : decode cX10_cure 4 = .ok (.aload_n 0, 1) := by decide +kernel
theorem dX10_cure_5 : decode cX10_cure 5 = .ok (.iload_n 1, 1) := by decide +kernel
theorem dX10_cure_6 : decode cX10_cure 6 = .ok (.invokevirtual 84, 3) := by decide +kernel
theorem dX10_cure_9 : decode cX10_cure 9 = .ok (.ifCond .ne 5, 3) := by decide +kernel
theorem dX10_cure_12 : decode cX10_cure 12 = .ok (.iconst (-1), 1) := by decide +kernel
theorem dX10_cure_13 : decode cX10_cure 13 = .ok (.ireturn, 1) := by decide +kernel
theorem dX10_cure_14 : decode cX10_cure 14 = .ok (.iload_n 2, 1) := by decide +kernel
theorem dX10_cure_15 : decode cX10_cure 15 = .ok (.iconst 1, 1) := by decide +kernel
theorem dX10_cure_16 : decode cX10_cure 16 = .ok (.bipush 36, 2) := by decide +kernel
theorem dX10_cure_18 : decode cX10_cure 18 = .ok (.invokestatic 38, 3) := by decide +kernel
theorem dX10_cure_21 : decode cX10_cure 21 = .ok (.ifCond .ne 6, 3) := by decide +kernel
theorem dX10_cure_24 : decode cX10_cure 24 = .ok (.bipush (-2), 2) := by decide +kernel
theorem dX10_cure_26 : decode cX10_cure 26 = .ok (.ireturn, 1) := by decide +kernel
theorem dX10_cure_27 : decode cX10_cure 27 = .ok (.aload_n 0, 1) := by decide +kernel
theorem dX10_cure_28 : decode cX10_cure 28 = .ok (.iload_n 1, 1) := by decide +kernel
theorem dX10_cure_29 : decode cX10_cure 29 = .ok (.invokevirtual 114, 3) := by decide +kernel
theorem dX10_cure_32 : decode cX10_cure 32 = .ok (.ifCond .eq 23, 3) := by decide +kernel
theorem dX10_cure_35 : decode cX10_cure 35 = .ok (.aload_n 0, 1) := by decide +kernel
theorem dX10_cure_36 : decode cX10_cure 36 = .ok (.iload_n 1, 1) := by decide +kernel
theorem dX10_cure_37 : decode cX10_cure 37 = .ok (.bipush 8, 2) := by decide +kernel
theorem dX10_cure_39 : decode cX10_cure 39 = .ok (.invokevirtual 42, 3) := by decide +kernel
theorem dX10_cure_42 : decode cX10_cure 42 = .ok (.ifCond .eq 13, 3) := by decide +kernel
theorem dX10_cure_45 : decode cX10_cure 45 = .ok (.aload_n 0, 1) := by decide +kernel
theorem dX10_cure_46 : decode cX10_cure 46 = .ok (.iload_n 1, 1) := by decide +kernel
theorem dX10_cure_47 : decode cX10_cure 47 = .ok (.bipush 6, 2) := by decide +kernel
theorem dX10_cure_49 : decode cX10_cure 49 = .ok (.invokevirtual 42, 3) := by decide +kernel
theorem dX10_cure_52 : decode cX10_cure 52 = .ok (.ifCond .le 6, 3) := by decide +kernel
theorem dX10_cure_55 : decode cX10_cure 55 = .ok (.bipush (-4), 2) := by decide +kernel
theorem dX10_cure_57 : decode cX10_cure 57 = .ok (.ireturn, 1) := by decide +kernel
theorem dX10_cure_58 : decode cX10_cure 58 = .ok (.aload_n 0, 1) := by decide +kernel
theorem dX10_cure_59 : decode cX10_cure 59 = .ok (.iload_n 1, 1) := by decide +kernel
theorem dX10_cure_60 : decode cX10_cure 60 = .ok (.bipush 7, 2) := by decide +kernel
theorem dX10_cure_62 : decode cX10_cure 62 = .ok (.iconst 0, 1) := by decide +kernel
theorem dX10_cure_63 : decode cX10_cure 63 = .ok (.invokevirtual 74, 3) := by decide +kernel
theorem dX10_cure_66 : decode cX10_cure 66 = .ok (.aload_n 0, 1) := by decide +kernel
theorem dX10_cure_67 : decode cX10_cure 67 = .ok (.iload_n 1, 1) := by decide +kernel
theorem dX10_cure_68 : decode cX10_cure 68 = .ok (.bipush 8, 2) := by decide +kernel
theorem dX10_cure_70 : decode cX10_cure 70 = .ok (.iconst 0, 1) := by decide +kernel
theorem dX10_cure_71 : decode cX10_cure 71 = .ok (.invokevirtual 74, 3) := by decide +kernel
theorem dX10_cure_74 : decode cX10_cure 74 = .ok (.aload_n 0, 1) := by decide +kernel
theorem dX10_cure_75 : decode cX10_cure 75 = .ok (.iload_n 1, 1) := by decide +kernel
theorem dX10_cure_76 : decode cX10_cure 76 = .ok (.iconst 5, 1) := by decide +kernel
theorem dX10_cure_77 : decode cX10_cure 77 = .ok (.aload_n 0, 1) := by decide +kernel
theorem dX10_cure_78 : decode cX10_cure 78 = .ok (.iload_n 1, 1) := by decide +kernel
theorem dX10_cure_79 : decode cX10_cure 79 = .ok (.iconst 4, 1) := by decide +kernel
theorem dX10_cure_80 : decode cX10_cure 80 = .ok (.invokevirtual 42, 3) := by decide +kernel
theorem dX10_cure_83 : decode cX10_cure 83 = .ok (.iload_n 2, 1) := by decide +kernel
theorem dX10_cure_84 : decode cX10_cure 84 = .ok (.invokestatic 90, 3) := by decide +kernel
theorem dX10_cure_87 : decode cX10_cure 87 = .ok (.invokevirtual 74, 3) := by decide +kernel
theorem dX10_cure_90 : decode cX10_cure 90 = .ok (.aload_n 0, 1) := by decide +kernel
theorem dX10_cure_91 : decode cX10_cure 91 = .ok (.aload_n 0, 1) := by decide +kernel
theorem dX10_cure_92 : decode cX10_cure 92 = .ok (.iload_n 1, 1) := by decide +kernel
theorem dX10_cure_93 : decode cX10_cure 93 = .ok (.iconst 5, 1) := by decide +kernel
theorem dX10_cure_94 : decode cX10_cure 94 = .ok (.invokevirtual 42, 3) := by decide +kernel
theorem dX10_cure_97 : decode cX10_cure 97 = .ok (.invokevirtual 61, 3) := by decide +kernel
theorem dX10_cure_100 : decode cX10_cure 100 = .ok (.ireturn, 1) := by decide +kernel
theorem dX10_sell_0 : decode cX10_sell 0 = .ok (.aload_n 0, 1) := by decide +kernel
theorem dX10_sell_1 : decode cX10_sell 1 = .ok (.invokevirtual 58, 3) := by decide +kernel
theorem dX10_sell_4 : decode cX10_sell 4 = .ok (.aload_n 0, 1) := by decide +kernel
theorem dX10_sell_5 : decode cX10_sell 5 = .ok (.iload_n 1, 1) := by decide +kernel
theorem dX10_sell_6 : decode cX10_sell 6 = .ok (.invokevirtual 84, 3) := by decide +kernel
theorem dX10_sell_9 : decode cX10_sell 9 = .ok (.ifCond .ne 5, 3) := by decide +kernel
theorem dX10_sell_12 : decode cX10_sell 12 = .ok (.iconst (-1), 1) := by decide +kernel
theorem dX10_sell_13 : decode cX10_sell 13 = .ok (.ireturn, 1) := by decide +kernel
theorem dX10_sell_14 : decode cX10_sell 14 = .ok (.iload_n 2, 1) := by decide +kernel
theorem dX10_sell_15 : decode cX10_sell 15 = .ok (.iconst 0, 1) := by decide +kernel
theorem dX10_sell_16 : decode cX10_sell 16 = .ok (.ldc 73, 2) := by decide +kernel
theorem dX10_sell_18 : decode cX10_sell 18 = .ok (.invokestatic 38, 3) := by decide +kernel
theorem dX10_sell_21 : decode cX10_sell 21 = .ok (.ifCond .ne 6, 3) := by decide +kernel
theorem dX10_sell_24 : decode cX10_sell 24 = .ok (.bipush (-2), 2) := by decide +kernel
theorem dX10_sell_26 : decode cX10_sell 26 = .ok (.ireturn, 1) := by decide +kernel
theorem dX10_sell_27 : decode cX10_sell 27 = .ok (.aload_n 0, 1) := by decide +kernel
theorem dX10_sell_28 : decode cX10_sell 28 = .ok (.iload_n 1, 1) := by decide +kernel
theorem dX10_sell_29 : decode cX10_sell 29 = .ok (.invokevirtual 114, 3) := by decide +kernel
theorem dX10_sell_32 : decode cX10_sell 32 = .ok (.ifCond .eq 14, 3) := by decide +kernel
theorem dX10_sell_35 : decode cX10_sell 35 = .ok (.aload_n 0, 1) := by decide +kernel
theorem dX10_sell_36 : decode cX10_sell 36 = .ok (.iload_n 1, 1) := by decide +kernel
theorem dX10_sell_37 : decode cX10_sell 37 = .ok (.bipush 8, 2) := by decide +kernel
theorem dX10_sell_39 : decode cX10_sell 39 = .ok (.invokevirtual 42, 3) := by decide +kernel
theorem dX10_sell_42 : decode cX10_sell 42 = .ok (.iconst 3, 1) := by decide +kernel
theorem dX10_sell_43 : decode cX10_sell 43 = .ok (.if_icmp .ge 6, 3) := by decide +kernel
theorem dX10_sell_46 : decode cX10_sell 46 = .ok (.bipush (-4), 2) := by decide +kernel
theorem dX10_sell_48 : decode cX10_sell 48 = .ok (.ireturn, 1) := by decide +kernel
theorem dX10_sell_49 : decode cX10_sell 49 = .ok (.aload_n 0, 1) := by decide +kernel
theorem dX10_sell_50 : decode cX10_sell 50 = .ok (.getfield 13, 3) := by decide +kernel
theorem dX10_sell_53 : decode cX10_sell 53 = .ok (.iconst 4, 1) := by decide +kernel
theorem dX10_sell_54 : decode cX10_sell 54 = .ok (.dup2, 1) := by decide +kernel
theorem dX10_sell_55 : decode cX10_sell 55 = .ok (.iaload, 1) := by decide +kernel
theorem dX10_sell_56 : decode cX10_sell 56 = .ok (.aload_n 0, 1) := by decide +kernel
theorem dX10_sell_57 : decode cX10_sell 57 = .ok (.iload_n 1, 1) := by decide +kernel
theorem dX10_sell_58 : decode cX10_sell 58 = .ok (.iconst 1, 1) := by decide +kernel
theorem dX10_sell_59 : decode cX10_sell 59 = .ok (.aload_n 0, 1) := by decide +kernel
theorem dX10_sell_60 : decode cX10_sell 60 = .ok (.iload_n 1, 1) := by decide +kernel
theorem dX10_sell_61 : decode cX10_sell 61 = .ok (.iconst 0, 1) := by decide +kernel
theorem dX10_sell_62 : decode cX10_sell 62 = .ok (.iload_n 2, 1) := by decide +kernel
theorem dX10_sell_63 : decode cX10_sell 63 = .ok (.invokevirtual 134, 3) := by decide +kernel
theorem dX10_sell_66 : decode cX10_sell 66 = .ok (.invokevirtual 134, 3) := by decide +kernel
theorem dX10_sell_69 : decode cX10_sell 69 = .ok (.iadd, 1) := by decide +kernel
theorem dX10_sell_70 : decode cX10_sell 70 = .ok (.iastore, 1) := by decide +kernel
theorem dX10_sell_71 : decode cX10_sell 71 = .ok (.aload_n 0, 1) := by decide +kernel
theorem dX10_sell_72 : decode cX10_sell 72 = .ok (.getfield 13, 3) := by decide +kernel
theorem dX10_sell_75 : decode cX10_sell 75 = .ok (.iconst 4, 1) := by decide +kernel
theorem dX10_sell_76 : decode cX10_sell 76 = .ok (.aload_n 0, 1) := by decide +kernel
theorem dX10_sell_77 : decode cX10_sell 77 = .ok (.iload_n 1, 1) := by decide +kernel
theorem dX10_sell_78 : decode cX10_sell 78 = .ok (.iconst 0, 1) := by decide +kernel
theorem dX10_sell_79 : decode cX10_sell 79 = .ok (.aload_n 0, 1) := by decide +kernel
theorem dX10_sell_80 : decode cX10_sell 80 = .ok (.getfield 13, 3) := by decide +kernel
theorem dX10_sell_83 : decode cX10_sell 83 = .ok (.iconst 4, 1) := by decide +kernel
theorem dX10_sell_84 : decode cX10_sell 84 = .ok (.iaload, 1) := by decide +kernel
theorem dX10_sell_85 : decode cX10_sell 85 = .ok (.invokevirtual 134, 3) := by decide +kernel
theorem dX10_sell_88 : decode cX10_sell 88 = .ok (.iastore, 1) := by decide +kernel
theorem dX10_sell_89 : decode cX10_sell 89 = .ok (.iconst 0, 1) := by decide +kernel
theorem dX10_sell_90 : decode cX10_sell 90 = .ok (.istore_n 3, 1) := by decide +kernel
theorem dX10_sell_91 : decode cX10_sell 91 = .ok (.iconst 0, 1) := by decide +kernel
theorem dX10_sell_92 : decode cX10_sell 92 = .ok (.istore 4, 2) := by decide +kernel
theorem dX10_sell_94 : decode cX10_sell 94 = .ok (.iload 4, 2) := by decide +kernel
theorem dX10_sell_96 : decode cX10_sell 96 = .ok (.aload_n 0, 1) := by decide +kernel
theorem dX10_sell_97 : decode cX10_sell 97 = .ok (.getfield 13, 3) := by decide +kernel
theorem dX10_sell_100 : decode cX10_sell 100 = .ok (.iconst 3, 1) := by decide +kernel
theorem dX10_sell_101 : decode cX10_sell 101 = .ok (.iaload, 1) := by decide +kernel
theorem dX10_sell_102 : decode cX10_sell 102 = .ok (.if_icmp .ge 78, 3) := by decide +kernel
theorem dX10_sell_105 : decode cX10_sell 105 = .ok (.aload_n 0, 1) := by decide +kernel
theorem dX10_sell_106 : decode cX10_sell 106 = .ok (.iload 4, 2) := by decide +kernel
theorem dX10_sell_108 : decode cX10_sell 108 = .ok (.iconst 1, 1) := by decide +kernel
theorem dX10_sell_109 : decode cX10_sell 109 = .ok (.invokevirtual 78, 3) := by decide +kernel
theorem dX10_sell_112 : decode cX10_sell 112 = .ok (.iload_n 1, 1) := by decide +kernel
theorem dX10_sell_113 : decode cX10_sell 113 = .ok (.if_icmp .ne 61, 3) := by decide +kernel
theorem dX10_sell_116 : decode cX10_sell 116 = .ok (.aload_n 0, 1) := by decide +kernel
theorem dX10_sell_117 : decode cX10_sell 117 = .ok (.iload 4, 2) := by decide +kernel
theorem dX10_sell_119 : decode cX10_sell 119 = .ok (.iconst 3, 1) := by decide +kernel
theorem dX10_sell_120 : decode cX10_sell 120 = .ok (.invokevirtual 78, 3) := by decide +kernel
theorem dX10_sell_123 : decode cX10_sell 123 = .ok (.istore 5, 2) := by decide +kernel
theorem dX10_sell_125 : decode cX10_sell 125 = .ok (.aload_n 0, 1) := by decide +kernel
theorem dX10_sell_126 : decode cX10_sell 126 = .ok (.iload 4, 2) := by decide +kernel
theorem dX10_sell_128 : decode cX10_sell 128 = .ok (.bipush 6, 2) := by decide +kernel
theorem dX10_sell_130 : decode cX10_sell 130 = .ok (.iload 5, 2) := by decide +kernel
theorem dX10_sell_132 : decode cX10_sell 132 = .ok (.invokevirtual 97, 3) := by decide +kernel
theorem dX10_sell_135 : decode cX10_sell 135 = .ok (.aload_n 0, 1) := by decide +kernel
theorem dX10_sell_136 : decode cX10_sell 136 = .ok (.iload 4, 2) := by decide +kernel
theorem dX10_sell_138 : decode cX10_sell 138 = .ok (.iconst 3, 1) := by decide +kernel
theorem dX10_sell_139 : decode cX10_sell 139 = .ok (.iload 5, 2) := by decide +kernel
theorem dX10_sell_141 : decode cX10_sell 141 = .ok (.ineg, 1) := by decide +kernel
theorem dX10_sell_142 : decode cX10_sell 142 = .ok (.invokevirtual 97, 3) := by decide +kernel
theorem dX10_sell_145 : decode cX10_sell 145 = .ok (.aload_n 0, 1) := by decide +kernel
theorem dX10_sell_146 : decode cX10_sell 146 = .ok (.getfield 13, 3) := by decide +kernel
theorem dX10_sell_149 : decode cX10_sell 149 = .ok (.bipush 10, 2) := by decide +kernel
theorem dX10_sell_151 : decode cX10_sell 151 = .ok (.iconst 3, 1) := by decide +kernel
theorem dX10_sell_152 : decode cX10_sell 152 = .ok (.aload_n 0, 1) := by decide +kernel
theorem dX10_sell_153 : decode cX10_sell 153 = .ok (.iload 4, 2) := by decide +kernel
theorem dX10_sell_155 : decode cX10_sell 155 = .ok (.iconst 0, 1) := by decide +kernel
theorem dX10_sell_156 : decode cX10_sell 156 = .ok (.invokevirtual 78, 3) := by decide +kernel
theorem dX10_sell_159 : decode cX10_sell 159 = .ok (.imul, 1) := by decide +kernel
theorem dX10_sell_160 : decode cX10_sell 160 = .ok (.iadd, 1) := by decide +kernel
theorem dX10_sell_161 : decode cX10_sell 161 = .ok (.iconst 2, 1) := by decide +kernel
theorem dX10_sell_162 : decode cX10_sell 162 = .ok (.iadd, 1) := by decide +kernel
theorem dX10_sell_163 : decode cX10_sell 163 = .ok (.dup2, 1) := by decide +kernel
theorem dX10_sell_164 : decode cX10_sell 164 = .ok (.iaload, 1) := by decide +kernel
theorem dX10_sell_165 : decode cX10_sell 165 = .ok (.iload 5, 2) := by decide +kernel
theorem dX10_sell_167 : decode cX10_sell 167 = .ok (.iadd, 1) := by decide +kernel
theorem dX10_sell_168 : decode cX10_sell 168 = .ok (.iastore, 1) := by decide +kernel
theorem dX10_sell_169 : decode cX10_sell 169 = .ok (.iload_n 3, 1) := by decide +kernel
theorem dX10_sell_170 : decode cX10_sell 170 = .ok (.iload 5, 2) := by decide +kernel
theorem dX10_sell_172 : decode cX10_sell 172 = .ok (.iadd, 1) := by decide +kernel
theorem dX10_sell_173 : decode cX10_sell 173 = .ok (.istore_n 3, 1) := by decide +kernel
theorem dX10_sell_174 : decode cX10_sell 174 = .ok (.iinc 4 1, 3) := by decide +kernel
theorem dX10_sell_177 : decode cX10_sell 177 = .ok (.goto (-83), 3) := by decide +kernel
theorem dX10_sell_180 : decode cX10_sell 180 = .ok (.aload_n 0, 1) := by decide +kernel
theorem dX10_sell_181 : decode cX10_sell 181 = .ok (.iload_n 1, 1) := by decide +kernel
theorem dX10_sell_182 : decode cX10_sell 182 = .ok (.iconst 4, 1) := by decide +kernel
theorem dX10_sell_183 : decode cX10_sell 183 = .ok (.iconst 0, 1) := by decide +kernel
theorem dX10_sell_184 : decode cX10_sell 184 = .ok (.invokevirtual 74, 3) := by decide +kernel
theorem dX10_sell_187 : decode cX10_sell 187 = .ok (.aload_n 0, 1) := by decide +kernel
theorem dX10_sell_188 : decode cX10_sell 188 = .ok (.iload_n 1, 1) := by decide +kernel
theorem dX10_sell_189 : decode cX10_sell 189 = .ok (.bipush 6, 2) := by decide +kernel
theorem dX10_sell_191 : decode cX10_sell 191 = .ok (.iconst 0, 1) := by decide +kernel
theorem dX10_sell_192 : decode cX10_sell 192 = .ok (.invokevirtual 74, 3) := by decide +kernel
theorem dX10_sell_195 : decode cX10_sell 195 = .ok (.aload_n 0, 1) := by decide +kernel
theorem dX10_sell_196 : decode cX10_sell 196 = .ok (.iload_n 1, 1) := by decide +kernel
theorem dX10_sell_197 : decode cX10_sell 197 = .ok (.bipush 7, 2) := by decide +kernel
theorem dX10_sell_199 : decode cX10_sell 199 = .ok (.iconst 0, 1) := by decide +kernel
theorem dX10_sell_200 : decode cX10_sell 200 = .ok (.invokevirtual 74, 3) := by decide +kernel
theorem dX10_sell_203 : decode cX10_sell 203 = .ok (.aload_n 0, 1) := by decide +kernel
theorem dX10_sell_204 : decode cX10_sell 204 = .ok (.iload_n 1, 1) := by decide +kernel
theorem dX10_sell_205 : decode cX10_sell 205 = .ok (.iconst 3, 1) := by decide +kernel
theorem dX10_sell_206 : decode cX10_sell 206 = .ok (.invokevirtual 100, 3) := by decide +kernel
theorem dX10_sell_209 : decode cX10_sell 209 = .ok (.aload_n 0, 1) := by decide +kernel
theorem dX10_sell_210 : decode cX10_sell 210 = .ok (.iload_n 3, 1) := by decide +kernel
theorem dX10_sell_211 : decode cX10_sell 211 = .ok (.invokevirtual 61, 3) := by decide +kernel
theorem dX10_sell_214 : decode cX10_sell 214 = .ok (.ireturn, 1) := by decide +kernel
theorem dX10_switchServicer_0 : decode cX10_switchServicer 0 = .ok (.aload_n 0, 1) := by decide +kernel
theorem dX10_switchServicer_1 : decode cX10_switchServicer 1 = .ok (.invokevirtual 58, 3) := by decide +kernel
theorem dX10_switchServicer_4 : decode cX10_switchServicer 4 = .ok (.aload_n 0, 1) := by decide +kernel
theorem dX10_switchServicer_5 : decode cX10_switchServicer 5 = .ok (.iload_n 1, 1) := by decide +kernel
theorem dX10_switchServicer_6 : decode cX10_switchServicer 6 = .ok (.invokevirtual 84, 3) := by decide +kernel
theorem dX10_switchServicer_9 : decode cX10_switchServicer 9 = .ok (.ifCond .eq 10, 3) := by decide +kernel
theorem dX10_switchServicer_12 : decode cX10_switchServicer 12 = .ok (.iload_n 2, 1) := by decide +kernel
theorem dX10_switchServicer_13 : decode cX10_switchServicer 13 = .ok (.invokestatic 137, 3) := by decide +kernel
theorem dX10_switchServicer_16 : decode cX10_switchServicer 16 = .ok (.ifCond .ne 5, 3) := by decide +kernel
theorem dX10_switchServicer_19 : decode cX10_switchServicer 19 = .ok (.iconst (-1), 1) := by decide +kernel
theorem dX10_switchServicer_20 : decode cX10_switchServicer 20 = .ok (.ireturn, 1) := by decide +kernel
theorem dX10_switchServicer_21 : decode cX10_switchServicer 21 = .ok (.aload_n 0, 1) := by decide +kernel
theorem dX10_switchServicer_22 : decode cX10_switchServicer 22 = .ok (.iload_n 1, 1) := by decide +kernel
theorem dX10_switchServicer_23 : decode cX10_switchServicer 23 = .ok (.invokevirtual 114, 3) := by decide +kernel
theorem dX10_switchServicer_26 : decode cX10_switchServicer 26 = .ok (.ifCond .ne 6, 3) := by decide +kernel
theorem dX10_switchServicer_29 : decode cX10_switchServicer 29 = .ok (.bipush (-4), 2) := by decide +kernel
theorem dX10_switchServicer_31 : decode cX10_switchServicer 31 = .ok (.ireturn, 1) := by decide +kernel
theorem dX10_switchServicer_32 : decode cX10_switchServicer 32 = .ok (.aload_n 0, 1) := by decide +kernel
theorem dX10_switchServicer_33 : decode cX10_switchServicer 33 = .ok (.iload_n 1, 1) := by decide +kernel
theorem dX10_switchServicer_34 : decode cX10_switchServicer 34 = .ok (.bipush 10, 2) := by decide +kernel
theorem dX10_switchServicer_36 : decode cX10_switchServicer 36 = .ok (.invokevirtual 42, 3) := by decide +kernel
theorem dX10_switchServicer_39 : decode cX10_switchServicer 39 = .ok (.istore_n 3, 1) := by decide +kernel
theorem dX10_switchServicer_40 : decode cX10_switchServicer 40 = .ok (.iload_n 3, 1) := by decide +kernel
theorem dX10_switchServicer_41 : decode cX10_switchServicer 41 = .ok (.iload_n 2, 1) := by decide +kernel
theorem dX10_switchServicer_42 : decode cX10_switchServicer 42 = .ok (.if_icmp .eq 20, 3) := by decide +kernel
theorem dX10_switchServicer_45 : decode cX10_switchServicer 45 = .ok (.iload_n 3, 1) := by decide +kernel
theorem dX10_switchServicer_46 : decode cX10_switchServicer 46 = .ok (.bipush (-5), 2) := by decide +kernel
theorem dX10_switchServicer_48 : decode cX10_switchServicer 48 = .ok (.if_icmp .ne 17, 3) := by decide +kernel
theorem dX10_switchServicer_51 : decode cX10_switchServicer 51 = .ok (.aload_n 0, 1) := by decide +kernel
theorem dX10_switchServicer_52 : decode cX10_switchServicer 52 = .ok (.iload_n 1, 1) := by decide +kernel
theorem dX10_switchServicer_53 : decode cX10_switchServicer 53 = .ok (.bipush 9, 2) := by decide +kernel
theorem dX10_switchServicer_55 : decode cX10_switchServicer 55 = .ok (.invokevirtual 42, 3) := by decide +kernel
theorem dX10_switchServicer_58 : decode cX10_switchServicer 58 = .ok (.iload_n 2, 1) := by decide +kernel
theorem dX10_switchServicer_59 : decode cX10_switchServicer 59 = .ok (.if_icmp .ne 6, 3) := by decide +kernel
theorem dX10_switchServicer_62 : decode cX10_switchServicer 62 = .ok (.bipush (-5), 2) := by decide +kernel
theorem dX10_switchServicer_64 : decode cX10_switchServicer 64 = .ok (.ireturn, 1) := by decide +kernel
theorem dX10_switchServicer_65 : decode cX10_switchServicer 65 = .ok (.aload_n 0, 1) := by decide +kernel
theorem dX10_switchServicer_66 : decode cX10_switchServicer 66 = .ok (.iload_n 1, 1) := by decide +kernel
theorem dX10_switchServicer_67 : decode cX10_switchServicer 67 = .ok (.bipush 10, 2) := by decide +kernel
theorem dX10_switchServicer_69 : decode cX10_switchServicer 69 = .ok (.iload_n 2, 1) := by decide +kernel
theorem dX10_switchServicer_70 : decode cX10_switchServicer 70 = .ok (.invokevirtual 74, 3) := by decide +kernel
theorem dX10_switchServicer_73 : decode cX10_switchServicer 73 = .ok (.aload_n 0, 1) := by decide +kernel
theorem dX10_switchServicer_74 : decode cX10_switchServicer 74 = .ok (.aload_n 0, 1) := by decide +kernel
theorem dX10_switchServicer_75 : decode cX10_switchServicer 75 = .ok (.iload_n 1, 1) := by decide +kernel
theorem dX10_switchServicer_76 : decode cX10_switchServicer 76 = .ok (.bipush 9, 2) := by decide +kernel
theorem dX10_switchServicer_78 : decode cX10_switchServicer 78 = .ok (.invokevirtual 42, 3) := by decide +kernel
theorem dX10_switchServicer_81 : decode cX10_switchServicer 81 = .ok (.invokevirtual 61, 3) := by decide +kernel
theorem dX10_switchServicer_84 : decode cX10_switchServicer 84 = .ok (.ireturn, 1) := by decide +kernel
theorem dX10_sellNote_0 : decode cX10_sellNote 0 = .ok (.aload_n 0, 1) := by decide +kernel
theorem dX10_sellNote_1 : decode cX10_sellNote 1 = .ok (.invokevirtual 58, 3) := by decide +kernel
theorem dX10_sellNote_4 : decode cX10_sellNote 4 = .ok (.aload_n 0, 1) := by decide +kernel
theorem dX10_sellNote_5 : decode cX10_sellNote 5 = .ok (.iload_n 1, 1) := by decide +kernel
theorem dX10_sellNote_6 : decode cX10_sellNote 6 = .ok (.invokevirtual 140, 3) := by decide +kernel
theorem dX10_sellNote_9 : decode cX10_sellNote 9 = .ok (.ifCond .eq 11, 3) := by decide +kernel
theorem dX10_sellNote_12 : decode cX10_sellNote 12 = .ok (.aload_n 0, 1) := by decide +kernel
theorem dX10_sellNote_13 : decode cX10_sellNote 13 = .ok (.iload_n 2, 1) := by decide +kernel
theorem dX10_sellNote_14 : decode cX10_sellNote 14 = .ok (.invokevirtual 65, 3) := by decide +kernel
theorem dX10_sellNote_17 : decode cX10_sellNote 17 = .ok (.ifCond .ne 5, 3) := by decide +kernel
theorem dX10_sellNote_20 : decode cX10_sellNote 20 = .ok (.iconst (-1), 1) := by decide +kernel
theorem dX10_sellNote_21 : decode cX10_sellNote 21 = .ok (.ireturn, 1) := by decide +kernel
theorem dX10_sellNote_22 : decode cX10_sellNote 22 = .ok (.iload_n 3, 1) := by decide +kernel
theorem dX10_sellNote_23 : decode cX10_sellNote 23 = .ok (.iconst 0, 1) := by decide +kernel
theorem dX10_sellNote_24 : decode cX10_sellNote 24 = .ok (.ldc 73, 2) := by decide +kernel
theorem dX10_sellNote_26 : decode cX10_sellNote 26 = .ok (.invokestatic 38, 3) := by decide +kernel
theorem dX10_sellNote_29 : decode cX10_sellNote 29 = .ok (.ifCond .eq 13, 3) := by decide +kernel
theorem dX10_sellNote_32 : decode cX10_sellNote 32 = .ok (.aload_n 0, 1) := by decide +kernel
theorem dX10_sellNote_33 : decode cX10_sellNote 33 = .ok (.iload_n 1, 1) := by decide +kernel
theorem dX10_sellNote_34 : decode cX10_sellNote 34 = .ok (.iconst 0, 1) := by decide +kernel
theorem dX10_sellNote_35 : decode cX10_sellNote 35 = .ok (.invokevirtual 78, 3) := by decide +kernel
theorem dX10_sellNote_38 : decode cX10_sellNote 38 = .ok (.iload_n 2, 1) := by decide +kernel
theorem dX10_sellNote_39 : decode cX10_sellNote 39 = .ok (.if_icmp .ne 6, 3) := by decide +kernel
theorem dX10_sellNote_42 : decode cX10_sellNote 42 = .ok (.bipush (-2), 2) := by decide +kernel
theorem dX10_sellNote_44 : decode cX10_sellNote 44 = .ok (.ireturn, 1) := by decide +kernel
theorem dX10_sellNote_45 : decode cX10_sellNote 45 = .ok (.aload_n 0, 1) := by decide +kernel
theorem dX10_sellNote_46 : decode cX10_sellNote 46 = .ok (.aload_n 0, 1) := by decide +kernel
theorem dX10_sellNote_47 : decode cX10_sellNote 47 = .ok (.iload_n 1, 1) := by decide +kernel
theorem dX10_sellNote_48 : decode cX10_sellNote 48 = .ok (.iconst 1, 1) := by decide +kernel
theorem dX10_sellNote_49 : decode cX10_sellNote 49 = .ok (.invokevirtual 78, 3) := by decide +kernel
theorem dX10_sellNote_52 : decode cX10_sellNote 52 = .ok (.invokevirtual 114, 3) := by decide +kernel
theorem dX10_sellNote_55 : decode cX10_sellNote 55 = .ok (.ifCond .eq 18, 3) := by decide +kernel
theorem dX10_sellNote_58 : decode cX10_sellNote 58 = .ok (.aload_n 0, 1) := by decide +kernel
theorem dX10_sellNote_59 : decode cX10_sellNote 59 = .ok (.getfield 13, 3) := by decide +kernel
theorem dX10_sellNote_62 : decode cX10_sellNote 62 = .ok (.bipush 10, 2) := by decide +kernel
theorem dX10_sellNote_64 : decode cX10_sellNote 64 = .ok (.iconst 3, 1) := by decide +kernel
theorem dX10_sellNote_65 : decode cX10_sellNote 65 = .ok (.iload_n 2, 1) := by decide +kernel
theorem dX10_sellNote_66 : decode cX10_sellNote 66 = .ok (.imul, 1) := by decide +kernel
theorem dX10_sellNote_67 : decode cX10_sellNote 67 = .ok (.iadd, 1) := by decide +kernel
theorem dX10_sellNote_68 : decode cX10_sellNote 68 = .ok (.iaload, 1) := by decide +kernel
theorem dX10_sellNote_69 : decode cX10_sellNote 69 = .ok (.iload_n 3, 1) := by decide +kernel
theorem dX10_sellNote_70 : decode cX10_sellNote 70 = .ok (.if_icmp .ge 6, 3) := by decide +kernel
theorem dX10_sellNote_73 : decode cX10_sellNote 73 = .ok (.bipush (-4), 2) := by decide +kernel
theorem dX10_sellNote_75 : decode cX10_sellNote 75 = .ok (.ireturn, 1) := by decide +kernel
theorem dX10_sellNote_76 : decode cX10_sellNote 76 = .ok (.aload_n 0, 1) := by decide +kernel
theorem dX10_sellNote_77 : decode cX10_sellNote 77 = .ok (.aload_n 0, 1) := by decide +kernel
theorem dX10_sellNote_78 : decode cX10_sellNote 78 = .ok (.iload_n 1, 1) := by decide +kernel
theorem dX10_sellNote_79 : decode cX10_sellNote 79 = .ok (.iconst 0, 1) := by decide +kernel
theorem dX10_sellNote_80 : decode cX10_sellNote 80 = .ok (.invokevirtual 78, 3) := by decide +kernel
theorem dX10_sellNote_83 : decode cX10_sellNote 83 = .ok (.iload_n 3, 1) := by decide +kernel
theorem dX10_sellNote_84 : decode cX10_sellNote 84 = .ok (.invokevirtual 69, 3) := by decide +kernel
theorem dX10_sellNote_87 : decode cX10_sellNote 87 = .ok (.aload_n 0, 1) := by decide +kernel
theorem dX10_sellNote_88 : decode cX10_sellNote 88 = .ok (.getfield 13, 3) := by decide +kernel
theorem dX10_sellNote_91 : decode cX10_sellNote 91 = .ok (.bipush 10, 2) := by decide +kernel
theorem dX10_sellNote_93 : decode cX10_sellNote 93 = .ok (.iconst 3, 1) := by decide +kernel
theorem dX10_sellNote_94 : decode cX10_sellNote 94 = .ok (.iload_n 2, 1) := by decide +kernel
theorem dX10_sellNote_95 : decode cX10_sellNote 95 = .ok (.imul, 1) := by decide +kernel
theorem dX10_sellNote_96 : decode cX10_sellNote 96 = .ok (.iadd, 1) := by decide +kernel
theorem dX10_sellNote_97 : decode cX10_sellNote 97 = .ok (.dup2, 1) := by decide +kernel
theorem dX10_sellNote_98 : decode cX10_sellNote 98 = .ok (.iaload, 1) := by decide +kernel
theorem dX10_sellNote_99 : decode cX10_sellNote 99 = .ok (.iload_n 3, 1) := by decide +kernel
theorem dX10_sellNote_100 : decode cX10_sellNote 100 = .ok (.isub, 1) := by decide +kernel
theorem dX10_sellNote_101 : decode cX10_sellNote 101 = .ok (.iastore, 1) := by decide +kernel
theorem dX10_sellNote_102 : decode cX10_sellNote 102 = .ok (.aload_n 0, 1) := by decide +kernel
theorem dX10_sellNote_103 : decode cX10_sellNote 103 = .ok (.iload_n 1, 1) := by decide +kernel
theorem dX10_sellNote_104 : decode cX10_sellNote 104 = .ok (.iconst 0, 1) := by decide +kernel
theorem dX10_sellNote_105 : decode cX10_sellNote 105 = .ok (.iload_n 2, 1) := by decide +kernel
theorem dX10_sellNote_106 : decode cX10_sellNote 106 = .ok (.aload_n 0, 1) := by decide +kernel
theorem dX10_sellNote_107 : decode cX10_sellNote 107 = .ok (.iload_n 1, 1) := by decide +kernel
theorem dX10_sellNote_108 : decode cX10_sellNote 108 = .ok (.iconst 0, 1) := by decide +kernel
theorem dX10_sellNote_109 : decode cX10_sellNote 109 = .ok (.invokevirtual 78, 3) := by decide +kernel
theorem dX10_sellNote_112 : decode cX10_sellNote 112 = .ok (.isub, 1) := by decide +kernel
theorem dX10_sellNote_113 : decode cX10_sellNote 113 = .ok (.invokevirtual 97, 3) := by decide +kernel
theorem dX10_sellNote_116 : decode cX10_sellNote 116 = .ok (.aload_n 0, 1) := by decide +kernel
theorem dX10_sellNote_117 : decode cX10_sellNote 117 = .ok (.aload_n 0, 1) := by decide +kernel
theorem dX10_sellNote_118 : decode cX10_sellNote 118 = .ok (.iload_n 1, 1) := by decide +kernel
theorem dX10_sellNote_119 : decode cX10_sellNote 119 = .ok (.iconst 3, 1) := by decide +kernel
theorem dX10_sellNote_120 : decode cX10_sellNote 120 = .ok (.invokevirtual 78, 3) := by decide +kernel
theorem dX10_sellNote_123 : decode cX10_sellNote 123 = .ok (.invokevirtual 61, 3) := by decide +kernel
theorem dX10_sellNote_126 : decode cX10_sellNote 126 = .ok (.ireturn, 1) := by decide +kernel
theorem dX10_inArrears_0 : decode cX10_inArrears 0 = .ok (.iconst 0, 1) := by decide +kernel
theorem dX10_inArrears_1 : decode cX10_inArrears 1 = .ok (.istore_n 1, 1) := by decide +kernel
theorem dX10_inArrears_2 : decode cX10_inArrears 2 = .ok (.iconst 0, 1) := by decide +kernel
theorem dX10_inArrears_3 : decode cX10_inArrears 3 = .ok (.istore_n 2, 1) := by decide +kernel
theorem dX10_inArrears_4 : decode cX10_inArrears 4 = .ok (.iload_n 2, 1) := by decide +kernel
theorem dX10_inArrears_5 : decode cX10_inArrears 5 = .ok (.aload_n 0, 1) := by decide +kernel
theorem dX10_inArrears_6 : decode cX10_inArrears 6 = .ok (.getfield 13, 3) := by decide +kernel
theorem dX10_inArrears_9 : decode cX10_inArrears 9 = .ok (.iconst 2, 1) := by decide +kernel
theorem dX10_inArrears_10 : decode cX10_inArrears 10 = .ok (.iaload, 1) := by decide +kernel
theorem dX10_inArrears_11 : decode cX10_inArrears 11 = .ok (.if_icmp .ge 35, 3) := by decide +kernel
theorem dX10_inArrears_14 : decode cX10_inArrears 14 = .ok (.iload_n 1, 1) := by decide +kernel
theorem dX10_inArrears_15 : decode cX10_inArrears 15 = .ok (.aload_n 0, 1) := by decide +kernel
theorem dX10_inArrears_16 : decode cX10_inArrears 16 = .ok (.iload_n 2, 1) := by decide +kernel
theorem dX10_inArrears_17 : decode cX10_inArrears 17 = .ok (.invokevirtual 114, 3) := by decide +kernel
theorem dX10_inArrears_20 : decode cX10_inArrears 20 = .ok (.ifCond .eq 17, 3) := by decide +kernel
theorem dX10_inArrears_23 : decode cX10_inArrears 23 = .ok (.aload_n 0, 1) := by decide +kernel
theorem dX10_inArrears_24 : decode cX10_inArrears 24 = .ok (.iload_n 2, 1) := by decide +kernel
theorem dX10_inArrears_25 : decode cX10_inArrears 25 = .ok (.bipush 8, 2) := by decide +kernel
theorem dX10_inArrears_27 : decode cX10_inArrears 27 = .ok (.invokevirtual 42, 3) := by decide +kernel
theorem dX10_inArrears_30 : decode cX10_inArrears 30 = .ok (.ifCond .le 7, 3) := by decide +kernel
theorem dX10_inArrears_33 : decode cX10_inArrears 33 = .ok (.iconst 1, 1) := by decide +kernel
theorem dX10_inArrears_34 : decode cX10_inArrears 34 = .ok (.goto 4, 3) := by decide +kernel
theorem dX10_inArrears_37 : decode cX10_inArrears 37 = .ok (.iconst 0, 1) := by decide +kernel
theorem dX10_inArrears_38 : decode cX10_inArrears 38 = .ok (.iadd, 1) := by decide +kernel
theorem dX10_inArrears_39 : decode cX10_inArrears 39 = .ok (.istore_n 1, 1) := by decide +kernel
theorem dX10_inArrears_40 : decode cX10_inArrears 40 = .ok (.iinc 2 1, 3) := by decide +kernel
theorem dX10_inArrears_43 : decode cX10_inArrears 43 = .ok (.goto (-39), 3) := by decide +kernel
theorem dX10_inArrears_46 : decode cX10_inArrears 46 = .ok (.iload_n 1, 1) := by decide +kernel
theorem dX10_inArrears_47 : decode cX10_inArrears 47 = .ok (.ireturn, 1) := by decide +kernel
theorem dX10_month_0 : decode cX10_month 0 = .ok (.aload_n 0, 1) := by decide +kernel
theorem dX10_month_1 : decode cX10_month 1 = .ok (.iload_n 1, 1) := by decide +kernel
theorem dX10_month_2 : decode cX10_month 2 = .ok (.bipush 10, 2) := by decide +kernel
theorem dX10_month_4 : decode cX10_month 4 = .ok (.invokevirtual 42, 3) := by decide +kernel
theorem dX10_month_7 : decode cX10_month 7 = .ok (.bipush (-5), 2) := by decide +kernel
theorem dX10_month_9 : decode cX10_month 9 = .ok (.if_icmp .eq 26, 3) := by decide +kernel
theorem dX10_month_12 : decode cX10_month 12 = .ok (.aload_n 0, 1) := by decide +kernel
theorem dX10_month_13 : decode cX10_month 13 = .ok (.iload_n 1, 1) := by decide +kernel
theorem dX10_month_14 : decode cX10_month 14 = .ok (.bipush 9, 2) := by decide +kernel
theorem dX10_month_16 : decode cX10_month 16 = .ok (.aload_n 0, 1) := by decide +kernel
theorem dX10_month_17 : decode cX10_month 17 = .ok (.iload_n 1, 1) := by decide +kernel
theorem dX10_month_18 : decode cX10_month 18 = .ok (.bipush 10, 2) := by decide +kernel
theorem dX10_month_20 : decode cX10_month 20 = .ok (.invokevirtual 42, 3) := by decide +kernel
theorem dX10_month_23 : decode cX10_month 23 = .ok (.invokevirtual 74, 3) := by decide +kernel
theorem dX10_month_26 : decode cX10_month 26 = .ok (.aload_n 0, 1) := by decide +kernel
theorem dX10_month_27 : decode cX10_month 27 = .ok (.iload_n 1, 1) := by decide +kernel
theorem dX10_month_28 : decode cX10_month 28 = .ok (.bipush 10, 2) := by decide +kernel
theorem dX10_month_30 : decode cX10_month 30 = .ok (.bipush (-5), 2) := by decide +kernel
theorem dX10_month_32 : decode cX10_month 32 = .ok (.invokevirtual 74, 3) := by decide +kernel
theorem dX10_month_35 : decode cX10_month 35 = .ok (.aload_n 0, 1) := by decide +kernel
theorem dX10_month_36 : decode cX10_month 36 = .ok (.iload_n 1, 1) := by decide +kernel
theorem dX10_month_37 : decode cX10_month 37 = .ok (.bipush 8, 2) := by decide +kernel
theorem dX10_month_39 : decode cX10_month 39 = .ok (.aload_n 0, 1) := by decide +kernel
theorem dX10_month_40 : decode cX10_month 40 = .ok (.iload_n 1, 1) := by decide +kernel
theorem dX10_month_41 : decode cX10_month 41 = .ok (.bipush 6, 2) := by decide +kernel
theorem dX10_month_43 : decode cX10_month 43 = .ok (.invokevirtual 42, 3) := by decide +kernel
theorem dX10_month_46 : decode cX10_month 46 = .ok (.aload_n 0, 1) := by decide +kernel
theorem dX10_month_47 : decode cX10_month 47 = .ok (.iload_n 1, 1) := by decide +kernel
theorem dX10_month_48 : decode cX10_month 48 = .ok (.bipush 7, 2) := by decide +kernel
theorem dX10_month_50 : decode cX10_month 50 = .ok (.invokevirtual 42, 3) := by decide +kernel
theorem dX10_month_53 : decode cX10_month 53 = .ok (.iadd, 1) := by decide +kernel
theorem dX10_month_54 : decode cX10_month 54 = .ok (.ifCond .le 15, 3) := by decide +kernel
theorem dX10_month_57 : decode cX10_month 57 = .ok (.aload_n 0, 1) := by decide +kernel
theorem dX10_month_58 : decode cX10_month 58 = .ok (.iload_n 1, 1) := by decide +kernel
theorem dX10_month_59 : decode cX10_month 59 = .ok (.bipush 8, 2) := by decide +kernel
theorem dX10_month_61 : decode cX10_month 61 = .ok (.invokevirtual 42, 3) := by decide +kernel
theorem dX10_month_64 : decode cX10_month 64 = .ok (.iconst 1, 1) := by decide +kernel
theorem dX10_month_65 : decode cX10_month 65 = .ok (.iadd, 1) := by decide +kernel
theorem dX10_month_66 : decode cX10_month 66 = .ok (.goto 4, 3) := by decide +kernel
theorem dX10_month_69 : decode cX10_month 69 = .ok (.iconst 0, 1) := by decide +kernel
theorem dX10_month_70 : decode cX10_month 70 = .ok (.invokevirtual 74, 3) := by decide +kernel
theorem dX10_month_73 : decode cX10_month 73 = .ok (.aload_n 0, 1) := by decide +kernel
theorem dX10_month_74 : decode cX10_month 74 = .ok (.iload_n 1, 1) := by decide +kernel
theorem dX10_month_75 : decode cX10_month 75 = .ok (.bipush 6, 2) := by decide +kernel
theorem dX10_month_77 : decode cX10_month 77 = .ok (.aload_n 0, 1) := by decide +kernel
theorem dX10_month_78 : decode cX10_month 78 = .ok (.iload_n 1, 1) := by decide +kernel
theorem dX10_month_79 : decode cX10_month 79 = .ok (.bipush 6, 2) := by decide +kernel
theorem dX10_month_81 : decode cX10_month 81 = .ok (.invokevirtual 42, 3) := by decide +kernel
theorem dX10_month_84 : decode cX10_month 84 = .ok (.aload_n 0, 1) := by decide +kernel
theorem dX10_month_85 : decode cX10_month 85 = .ok (.iload_n 1, 1) := by decide +kernel
theorem dX10_month_86 : decode cX10_month 86 = .ok (.iconst 4, 1) := by decide +kernel
theorem dX10_month_87 : decode cX10_month 87 = .ok (.invokevirtual 42, 3) := by decide +kernel
theorem dX10_month_90 : decode cX10_month 90 = .ok (.aload_n 0, 1) := by decide +kernel
theorem dX10_month_91 : decode cX10_month 91 = .ok (.iload_n 1, 1) := by decide +kernel
theorem dX10_month_92 : decode cX10_month 92 = .ok (.iconst 1, 1) := by decide +kernel
theorem dX10_month_93 : decode cX10_month 93 = .ok (.invokevirtual 42, 3) := by decide +kernel
theorem dX10_month_96 : decode cX10_month 96 = .ok (.imul, 1) := by decide +kernel
theorem dX10_month_97 : decode cX10_month 97 = .ok (.sipush 1000, 3) := by decide +kernel
theorem dX10_month_100 : decode cX10_month 100 = .ok (.idiv, 1) := by decide +kernel
theorem dX10_month_101 : decode cX10_month 101 = .ok (.iadd, 1) := by decide +kernel
theorem dX10_month_102 : decode cX10_month 102 = .ok (.invokevirtual 74, 3) := by decide +kernel
theorem dX10_month_105 : decode cX10_month 105 = .ok (.aload_n 0, 1) := by decide +kernel
theorem dX10_month_106 : decode cX10_month 106 = .ok (.iload_n 1, 1) := by decide +kernel
theorem dX10_month_107 : decode cX10_month 107 = .ok (.bipush 7, 2) := by decide +kernel
theorem dX10_month_109 : decode cX10_month 109 = .ok (.invokevirtual 42, 3) := by decide +kernel
theorem dX10_month_112 : decode cX10_month 112 = .ok (.aload_n 0, 1) := by decide +kernel
theorem dX10_month_113 : decode cX10_month 113 = .ok (.iload_n 1, 1) := by decide +kernel
theorem dX10_month_114 : decode cX10_month 114 = .ok (.iconst 5, 1) := by decide +kernel
theorem dX10_month_115 : decode cX10_month 115 = .ok (.invokevirtual 42, 3) := by decide +kernel
theorem dX10_month_118 : decode cX10_month 118 = .ok (.iadd, 1) := by decide +kernel
theorem dX10_month_119 : decode cX10_month 119 = .ok (.istore_n 2, 1) := by decide +kernel
theorem dX10_month_120 : decode cX10_month 120 = .ok (.aload_n 0, 1) := by decide +kernel
theorem dX10_month_121 : decode cX10_month 121 = .ok (.iload_n 1, 1) := by decide +kernel
theorem dX10_month_122 : decode cX10_month 122 = .ok (.bipush 7, 2) := by decide +kernel
theorem dX10_month_124 : decode cX10_month 124 = .ok (.iload_n 2, 1) := by decide +kernel
theorem dX10_month_125 : decode cX10_month 125 = .ok (.aload_n 0, 1) := by decide +kernel
theorem dX10_month_126 : decode cX10_month 126 = .ok (.iload_n 1, 1) := by decide +kernel
theorem dX10_month_127 : decode cX10_month 127 = .ok (.iconst 4, 1) := by decide +kernel
theorem dX10_month_128 : decode cX10_month 128 = .ok (.invokevirtual 42, 3) := by decide +kernel
theorem dX10_month_131 : decode cX10_month 131 = .ok (.if_icmp .ge 7, 3) := by decide +kernel
theorem dX10_month_134 : decode cX10_month 134 = .ok (.iload_n 2, 1) := by decide +kernel
theorem dX10_month_135 : decode cX10_month 135 = .ok (.goto 9, 3) := by decide +kernel
theorem dX10_month_138 : decode cX10_month 138 = .ok (.aload_n 0, 1) := by decide +kernel
theorem dX10_month_139 : decode cX10_month 139 = .ok (.iload_n 1, 1) := by decide +kernel
theorem dX10_month_140 : decode cX10_month 140 = .ok (.iconst 4, 1) := by decide +kernel
theorem dX10_month_141 : decode cX10_month 141 = .ok (.invokevirtual 42, 3) := by decide +kernel
theorem dX10_month_144 : decode cX10_month 144 = .ok (.invokevirtual 74, 3) := by decide +kernel
theorem dX10_month_147 : decode cX10_month 147 = .ok (.return_, 1) := by decide +kernel
theorem dX10_pass_0 : decode cX10_pass 0 = .ok (.aload_n 0, 1) := by decide +kernel
theorem dX10_pass_1 : decode cX10_pass 1 = .ok (.invokevirtual 58, 3) := by decide +kernel
theorem dX10_pass_4 : decode cX10_pass 4 = .ok (.iload_n 1, 1) := by decide +kernel
theorem dX10_pass_5 : decode cX10_pass 5 = .ok (.iconst 1, 1) := by decide +kernel
theorem dX10_pass_6 : decode cX10_pass 6 = .ok (.bipush 24, 2) := by decide +kernel
theorem dX10_pass_8 : decode cX10_pass 8 = .ok (.invokestatic 38, 3) := by decide +kernel
theorem dX10_pass_11 : decode cX10_pass 11 = .ok (.ifCond .ne 6, 3) := by decide +kernel
theorem dX10_pass_14 : decode cX10_pass 14 = .ok (.bipush (-2), 2) := by decide +kernel
theorem dX10_pass_16 : decode cX10_pass 16 = .ok (.ireturn, 1) := by decide +kernel
theorem dX10_pass_17 : decode cX10_pass 17 = .ok (.aload_n 0, 1) := by decide +kernel
theorem dX10_pass_18 : decode cX10_pass 18 = .ok (.getfield 13, 3) := by decide +kernel
theorem dX10_pass_21 : decode cX10_pass 21 = .ok (.iconst 0, 1) := by decide +kernel
theorem dX10_pass_22 : decode cX10_pass 22 = .ok (.iaload, 1) := by decide +kernel
theorem dX10_pass_23 : decode cX10_pass 23 = .ok (.iload_n 1, 1) := by decide +kernel
theorem dX10_pass_24 : decode cX10_pass 24 = .ok (.iadd, 1) := by decide +kernel
theorem dX10_pass_25 : decode cX10_pass 25 = .ok (.sipush 240, 3) := by decide +kernel
theorem dX10_pass_28 : decode cX10_pass 28 = .ok (.if_icmp .le 6, 3) := by decide +kernel
theorem dX10_pass_31 : decode cX10_pass 31 = .ok (.bipush (-4), 2) := by decide +kernel
theorem dX10_pass_33 : decode cX10_pass 33 = .ok (.ireturn, 1) := by decide +kernel
theorem dX10_pass_34 : decode cX10_pass 34 = .ok (.iconst 0, 1) := by decide +kernel
theorem dX10_pass_35 : decode cX10_pass 35 = .ok (.istore_n 2, 1) := by decide +kernel
theorem dX10_pass_36 : decode cX10_pass 36 = .ok (.iload_n 2, 1) := by decide +kernel
theorem dX10_pass_37 : decode cX10_pass 37 = .ok (.iload_n 1, 1) := by decide +kernel
theorem dX10_pass_38 : decode cX10_pass 38 = .ok (.if_icmp .ge 40, 3) := by decide +kernel
theorem dX10_pass_41 : decode cX10_pass 41 = .ok (.iconst 0, 1) := by decide +kernel
theorem dX10_pass_42 : decode cX10_pass 42 = .ok (.istore_n 3, 1) := by decide +kernel
theorem dX10_pass_43 : decode cX10_pass 43 = .ok (.iload_n 3, 1) := by decide +kernel
theorem dX10_pass_44 : decode cX10_pass 44 = .ok (.aload_n 0, 1) := by decide +kernel
theorem dX10_pass_45 : decode cX10_pass 45 = .ok (.getfield 13, 3) := by decide +kernel
theorem dX10_pass_48 : decode cX10_pass 48 = .ok (.iconst 2, 1) := by decide +kernel
theorem dX10_pass_49 : decode cX10_pass 49 = .ok (.iaload, 1) := by decide +kernel
theorem dX10_pass_50 : decode cX10_pass 50 = .ok (.if_icmp .ge 22, 3) := by decide +kernel
theorem dX10_pass_53 : decode cX10_pass 53 = .ok (.aload_n 0, 1) := by decide +kernel
theorem dX10_pass_54 : decode cX10_pass 54 = .ok (.iload_n 3, 1) := by decide +kernel
theorem dX10_pass_55 : decode cX10_pass 55 = .ok (.invokevirtual 114, 3) := by decide +kernel
theorem dX10_pass_58 : decode cX10_pass 58 = .ok (.ifCond .eq 8, 3) := by decide +kernel
theorem dX10_pass_61 : decode cX10_pass 61 = .ok (.aload_n 0, 1) := by decide +kernel
theorem dX10_pass_62 : decode cX10_pass 62 = .ok (.iload_n 3, 1) := by decide +kernel
theorem dX10_pass_63 : decode cX10_pass 63 = .ok (.invokevirtual 143, 3) := by decide +kernel
theorem dX10_pass_66 : decode cX10_pass 66 = .ok (.iinc 3 1, 3) := by decide +kernel
theorem dX10_pass_69 : decode cX10_pass 69 = .ok (.goto (-26), 3) := by decide +kernel
theorem dX10_pass_72 : decode cX10_pass 72 = .ok (.iinc 2 1, 3) := by decide +kernel
theorem dX10_pass_75 : decode cX10_pass 75 = .ok (.goto (-39), 3) := by decide +kernel
theorem dX10_pass_78 : decode cX10_pass 78 = .ok (.aload_n 0, 1) := by decide +kernel
theorem dX10_pass_79 : decode cX10_pass 79 = .ok (.getfield 13, 3) := by decide +kernel
theorem dX10_pass_82 : decode cX10_pass 82 = .ok (.iconst 0, 1) := by decide +kernel
theorem dX10_pass_83 : decode cX10_pass 83 = .ok (.dup2, 1) := by decide +kernel
theorem dX10_pass_84 : decode cX10_pass 84 = .ok (.iaload, 1) := by decide +kernel
theorem dX10_pass_85 : decode cX10_pass 85 = .ok (.iload_n 1, 1) := by decide +kernel
theorem dX10_pass_86 : decode cX10_pass 86 = .ok (.iadd, 1) := by decide +kernel
theorem dX10_pass_87 : decode cX10_pass 87 = .ok (.iastore, 1) := by decide +kernel
theorem dX10_pass_88 : decode cX10_pass 88 = .ok (.aload_n 0, 1) := by decide +kernel
theorem dX10_pass_89 : decode cX10_pass 89 = .ok (.aload_n 0, 1) := by decide +kernel
theorem dX10_pass_90 : decode cX10_pass 90 = .ok (.invokevirtual 147, 3) := by decide +kernel
theorem dX10_pass_93 : decode cX10_pass 93 = .ok (.invokevirtual 61, 3) := by decide +kernel
theorem dX10_pass_96 : decode cX10_pass 96 = .ok (.ireturn, 1) := by decide +kernel
theorem dX10_type_0 : decode cX10_type 0 = .ok (.aload_n 0, 1) := by decide +kernel
theorem dX10_type_1 : decode cX10_type 1 = .ok (.iconst 0, 1) := by decide +kernel
theorem dX10_type_2 : decode cX10_type 2 = .ok (.putfield 1, 3) := by decide +kernel
theorem dX10_type_5 : decode cX10_type 5 = .ok (.aload_n 0, 1) := by decide +kernel
theorem dX10_type_6 : decode cX10_type 6 = .ok (.getfield 151, 3) := by decide +kernel
theorem dX10_type_9 : decode cX10_type 9 = .ok (.bipush 60, 2) := by decide +kernel
theorem dX10_type_11 : decode cX10_type 11 = .ok (.if_icmp .ne 6, 3) := by decide +kernel
theorem dX10_type_14 : decode cX10_type 14 = .ok (.bipush (-3), 2) := by decide +kernel
theorem dX10_type_16 : decode cX10_type 16 = .ok (.ireturn, 1) := by decide +kernel
theorem dX10_type_17 : decode cX10_type 17 = .ok (.aload_n 0, 1) := by decide +kernel
theorem dX10_type_18 : decode cX10_type 18 = .ok (.getfield 26, 3) := by decide +kernel
theorem dX10_type_21 : decode cX10_type 21 = .ok (.aload_n 0, 1) := by decide +kernel
theorem dX10_type_22 : decode cX10_type 22 = .ok (.getfield 151, 3) := by decide +kernel
theorem dX10_type_25 : decode cX10_type 25 = .ok (.iload_n 1, 1) := by decide +kernel
theorem dX10_type_26 : decode cX10_type 26 = .ok (.iastore, 1) := by decide +kernel
theorem dX10_type_27 : decode cX10_type 27 = .ok (.aload_n 0, 1) := by decide +kernel
theorem dX10_type_28 : decode cX10_type 28 = .ok (.dup, 1) := by decide +kernel
theorem dX10_type_29 : decode cX10_type 29 = .ok (.getfield 151, 3) := by decide +kernel
theorem dX10_type_32 : decode cX10_type 32 = .ok (.iconst 1, 1) := by decide +kernel
theorem dX10_type_33 : decode cX10_type 33 = .ok (.iadd, 1) := by decide +kernel
theorem dX10_type_34 : decode cX10_type 34 = .ok (.putfield 151, 3) := by decide +kernel
theorem dX10_type_37 : decode cX10_type 37 = .ok (.aload_n 0, 1) := by decide +kernel
theorem dX10_type_38 : decode cX10_type 38 = .ok (.getfield 151, 3) := by decide +kernel
theorem dX10_type_41 : decode cX10_type 41 = .ok (.ireturn, 1) := by decide +kernel
theorem dX10_clearText_0 : decode cX10_clearText 0 = .ok (.aload_n 0, 1) := by decide +kernel
theorem dX10_clearText_1 : decode cX10_clearText 1 = .ok (.iconst 0, 1) := by decide +kernel
theorem dX10_clearText_2 : decode cX10_clearText 2 = .ok (.putfield 1, 3) := by decide +kernel
theorem dX10_clearText_5 : decode cX10_clearText 5 = .ok (.aload_n 0, 1) := by decide +kernel
theorem dX10_clearText_6 : decode cX10_clearText 6 = .ok (.getfield 151, 3) := by decide +kernel
theorem dX10_clearText_9 : decode cX10_clearText 9 = .ok (.istore_n 1, 1) := by decide +kernel
theorem dX10_clearText_10 : decode cX10_clearText 10 = .ok (.aload_n 0, 1) := by decide +kernel
theorem dX10_clearText_11 : decode cX10_clearText 11 = .ok (.iconst 0, 1) := by decide +kernel
theorem dX10_clearText_12 : decode cX10_clearText 12 = .ok (.putfield 151, 3) := by decide +kernel
theorem dX10_clearText_15 : decode cX10_clearText 15 = .ok (.iload_n 1, 1) := by decide +kernel
theorem dX10_clearText_16 : decode cX10_clearText 16 = .ok (.ireturn, 1) := by decide +kernel
theorem dX10_look_0 : decode cX10_look 0 = .ok (.aload_n 0, 1) := by decide +kernel
theorem dX10_look_1 : decode cX10_look 1 = .ok (.getfield 154, 3) := by decide +kernel
theorem dX10_look_4 : decode cX10_look 4 = .ok (.aload_n 0, 1) := by decide +kernel
theorem dX10_look_5 : decode cX10_look 5 = .ok (.getfield 151, 3) := by decide +kernel
theorem dX10_look_8 : decode cX10_look 8 = .ok (.if_icmp .ge 15, 3) := by decide +kernel
theorem dX10_look_11 : decode cX10_look 11 = .ok (.aload_n 0, 1) := by decide +kernel
theorem dX10_look_12 : decode cX10_look 12 = .ok (.getfield 26, 3) := by decide +kernel
theorem dX10_look_15 : decode cX10_look 15 = .ok (.aload_n 0, 1) := by decide +kernel
theorem dX10_look_16 : decode cX10_look 16 = .ok (.getfield 154, 3) := by decide +kernel
theorem dX10_look_19 : decode cX10_look 19 = .ok (.iaload, 1) := by decide +kernel
theorem dX10_look_20 : decode cX10_look 20 = .ok (.goto 4, 3) := by decide +kernel
theorem dX10_look_23 : decode cX10_look 23 = .ok (.iconst (-1), 1) := by decide +kernel
theorem dX10_look_24 : decode cX10_look 24 = .ok (.ireturn, 1) := by decide +kernel
theorem dX10_must_0 : decode cX10_must 0 = .ok (.aload_n 0, 1) := by decide +kernel
theorem dX10_must_1 : decode cX10_must 1 = .ok (.aload_n 0, 1) := by decide +kernel
theorem dX10_must_2 : decode cX10_must 2 = .ok (.getfield 157, 3) := by decide +kernel
theorem dX10_must_5 : decode cX10_must 5 = .ok (.ifCond .ne 7, 3) := by decide +kernel
theorem dX10_must_8 : decode cX10_must 8 = .ok (.iload_n 1, 1) := by decide +kernel
theorem dX10_must_9 : decode cX10_must 9 = .ok (.ifCond .ne 7, 3) := by decide +kernel
theorem dX10_must_12 : decode cX10_must 12 = .ok (.iconst 1, 1) := by decide +kernel
theorem dX10_must_13 : decode cX10_must 13 = .ok (.goto 4, 3) := by decide +kernel
theorem dX10_must_16 : decode cX10_must 16 = .ok (.iconst 0, 1) := by decide +kernel
theorem dX10_must_17 : decode cX10_must 17 = .ok (.putfield 157, 3) := by decide +kernel
theorem dX10_must_20 : decode cX10_must 20 = .ok (.aload_n 0, 1) := by decide +kernel
theorem dX10_must_21 : decode cX10_must 21 = .ok (.dup, 1) := by decide +kernel
theorem dX10_must_22 : decode cX10_must 22 = .ok (.getfield 154, 3) := by decide +kernel
theorem dX10_must_25 : decode cX10_must 25 = .ok (.aload_n 0, 1) := by decide +kernel
theorem dX10_must_26 : decode cX10_must 26 = .ok (.getfield 157, 3) := by decide +kernel
theorem dX10_must_29 : decode cX10_must 29 = .ok (.ifCond .eq 7, 3) := by decide +kernel
theorem dX10_must_32 : decode cX10_must 32 = .ok (.iconst 0, 1) := by decide +kernel
theorem dX10_must_33 : decode cX10_must 33 = .ok (.goto 4, 3) := by decide +kernel
theorem dX10_must_36 : decode cX10_must 36 = .ok (.iconst 1, 1) := by decide +kernel
theorem dX10_must_37 : decode cX10_must 37 = .ok (.iadd, 1) := by decide +kernel
theorem dX10_must_38 : decode cX10_must 38 = .ok (.putfield 154, 3) := by decide +kernel
theorem dX10_must_41 : decode cX10_must 41 = .ok (.return_, 1) := by decide +kernel
theorem dX10_digit_0 : decode cX10_digit 0 = .ok (.aload_n 0, 1) := by decide +kernel
theorem dX10_digit_1 : decode cX10_digit 1 = .ok (.invokevirtual 160, 3) := by decide +kernel
theorem dX10_digit_4 : decode cX10_digit 4 = .ok (.bipush 48, 2) := by decide +kernel
theorem dX10_digit_6 : decode cX10_digit 6 = .ok (.isub, 1) := by decide +kernel
theorem dX10_digit_7 : decode cX10_digit 7 = .ok (.istore_n 2, 1) := by decide +kernel
theorem dX10_digit_8 : decode cX10_digit 8 = .ok (.aload_n 0, 1) := by decide +kernel
theorem dX10_digit_9 : decode cX10_digit 9 = .ok (.iload_n 2, 1) := by decide +kernel
theorem dX10_digit_10 : decode cX10_digit 10 = .ok (.iload_n 1, 1) := by decide +kernel
theorem dX10_digit_11 : decode cX10_digit 11 = .ok (.bipush 9, 2) := by decide +kernel
theorem dX10_digit_13 : decode cX10_digit 13 = .ok (.invokestatic 38, 3) := by decide +kernel
theorem dX10_digit_16 : decode cX10_digit 16 = .ok (.invokevirtual 163, 3) := by decide +kernel
theorem dX10_digit_19 : decode cX10_digit 19 = .ok (.iload_n 2, 1) := by decide +kernel
theorem dX10_digit_20 : decode cX10_digit 20 = .ok (.ireturn, 1) := by decide +kernel
theorem dX10_tell_0 : decode cX10_tell 0 = .ok (.aload_n 0, 1) := by decide +kernel
theorem dX10_tell_1 : decode cX10_tell 1 = .ok (.getfield 35, 3) := by decide +kernel
theorem dX10_tell_4 : decode cX10_tell 4 = .ok (.iconst 4, 1) := by decide +kernel
theorem dX10_tell_5 : decode cX10_tell 5 = .ok (.iload_n 1, 1) := by decide +kernel
theorem dX10_tell_6 : decode cX10_tell 6 = .ok (.imul, 1) := by decide +kernel
theorem dX10_tell_7 : decode cX10_tell 7 = .ok (.aload_n 0, 1) := by decide +kernel
theorem dX10_tell_8 : decode cX10_tell 8 = .ok (.iconst 0, 1) := by decide +kernel
theorem dX10_tell_9 : decode cX10_tell 9 = .ok (.invokevirtual 167, 3) := by decide +kernel
theorem dX10_tell_12 : decode cX10_tell 12 = .ok (.iastore, 1) := by decide +kernel
theorem dX10_tell_13 : decode cX10_tell 13 = .ok (.aload_n 0, 1) := by decide +kernel
theorem dX10_tell_14 : decode cX10_tell 14 = .ok (.aload_n 0, 1) := by decide +kernel
theorem dX10_tell_15 : decode cX10_tell 15 = .ok (.invokevirtual 160, 3) := by decide +kernel
theorem dX10_tell_18 : decode cX10_tell 18 = .ok (.bipush 62, 2) := by decide +kernel
theorem dX10_tell_20 : decode cX10_tell 20 = .ok (.if_icmp .ne 7, 3) := by decide +kernel
theorem dX10_tell_23 : decode cX10_tell 23 = .ok (.iconst 1, 1) := by decide +kernel
theorem dX10_tell_24 : decode cX10_tell 24 = .ok (.goto 4, 3) := by decide +kernel
theorem dX10_tell_27 : decode cX10_tell 27 = .ok (.iconst 0, 1) := by decide +kernel
theorem dX10_tell_28 : decode cX10_tell 28 = .ok (.invokevirtual 163, 3) := by decide +kernel
theorem dX10_tell_31 : decode cX10_tell 31 = .ok (.aload_n 0, 1) := by decide +kernel
theorem dX10_tell_32 : decode cX10_tell 32 = .ok (.getfield 35, 3) := by decide +kernel
theorem dX10_tell_35 : decode cX10_tell 35 = .ok (.iconst 4, 1) := by decide +kernel
theorem dX10_tell_36 : decode cX10_tell 36 = .ok (.iload_n 1, 1) := by decide +kernel
theorem dX10_tell_37 : decode cX10_tell 37 = .ok (.imul, 1) := by decide +kernel
theorem dX10_tell_38 : decode cX10_tell 38 = .ok (.iconst 1, 1) := by decide +kernel
theorem dX10_tell_39 : decode cX10_tell 39 = .ok (.iadd, 1) := by decide +kernel
theorem dX10_tell_40 : decode cX10_tell 40 = .ok (.aload_n 0, 1) := by decide +kernel
theorem dX10_tell_41 : decode cX10_tell 41 = .ok (.iconst 0, 1) := by decide +kernel
theorem dX10_tell_42 : decode cX10_tell 42 = .ok (.invokevirtual 167, 3) := by decide +kernel
theorem dX10_tell_45 : decode cX10_tell 45 = .ok (.iastore, 1) := by decide +kernel
theorem dX10_tell_46 : decode cX10_tell 46 = .ok (.aload_n 0, 1) := by decide +kernel
theorem dX10_tell_47 : decode cX10_tell 47 = .ok (.getfield 35, 3) := by decide +kernel
theorem dX10_tell_50 : decode cX10_tell 50 = .ok (.iconst 4, 1) := by decide +kernel
theorem dX10_tell_51 : decode cX10_tell 51 = .ok (.iload_n 1, 1) := by decide +kernel
theorem dX10_tell_52 : decode cX10_tell 52 = .ok (.imul, 1) := by decide +kernel
theorem dX10_tell_53 : decode cX10_tell 53 = .ok (.iconst 2, 1) := by decide +kernel
theorem dX10_tell_54 : decode cX10_tell 54 = .ok (.iadd, 1) := by decide +kernel
theorem dX10_tell_55 : decode cX10_tell 55 = .ok (.aload_n 0, 1) := by decide +kernel
theorem dX10_tell_56 : decode cX10_tell 56 = .ok (.invokevirtual 160, 3) := by decide +kernel
theorem dX10_tell_59 : decode cX10_tell 59 = .ok (.bipush 106, 2) := by decide +kernel
theorem dX10_tell_61 : decode cX10_tell 61 = .ok (.if_icmp .ne 7, 3) := by decide +kernel
theorem dX10_tell_64 : decode cX10_tell 64 = .ok (.iconst 1, 1) := by decide +kernel
theorem dX10_tell_65 : decode cX10_tell 65 = .ok (.goto 4, 3) := by decide +kernel
theorem dX10_tell_68 : decode cX10_tell 68 = .ok (.iconst 0, 1) := by decide +kernel
theorem dX10_tell_69 : decode cX10_tell 69 = .ok (.iastore, 1) := by decide +kernel
theorem dX10_tell_70 : decode cX10_tell 70 = .ok (.aload_n 0, 1) := by decide +kernel
theorem dX10_tell_71 : decode cX10_tell 71 = .ok (.aload_n 0, 1) := by decide +kernel
theorem dX10_tell_72 : decode cX10_tell 72 = .ok (.invokevirtual 160, 3) := by decide +kernel
theorem dX10_tell_75 : decode cX10_tell 75 = .ok (.bipush 115, 2) := by decide +kernel
theorem dX10_tell_77 : decode cX10_tell 77 = .ok (.if_icmp .eq 12, 3) := by decide +kernel
theorem dX10_tell_80 : decode cX10_tell 80 = .ok (.aload_n 0, 1) := by decide +kernel
theorem dX10_tell_81 : decode cX10_tell 81 = .ok (.invokevirtual 160, 3) := by decide +kernel
theorem dX10_tell_84 : decode cX10_tell 84 = .ok (.bipush 106, 2) := by decide +kernel
theorem dX10_tell_86 : decode cX10_tell 86 = .ok (.if_icmp .ne 7, 3) := by decide +kernel
theorem dX10_tell_89 : decode cX10_tell 89 = .ok (.iconst 1, 1) := by decide +kernel
theorem dX10_tell_90 : decode cX10_tell 90 = .ok (.goto 4, 3) := by decide +kernel
theorem dX10_tell_93 : decode cX10_tell 93 = .ok (.iconst 0, 1) := by decide +kernel
theorem dX10_tell_94 : decode cX10_tell 94 = .ok (.invokevirtual 163, 3) := by decide +kernel
theorem dX10_tell_97 : decode cX10_tell 97 = .ok (.aload_n 0, 1) := by decide +kernel
theorem dX10_tell_98 : decode cX10_tell 98 = .ok (.iconst 1, 1) := by decide +kernel
theorem dX10_tell_99 : decode cX10_tell 99 = .ok (.invokevirtual 167, 3) := by decide +kernel
theorem dX10_tell_102 : decode cX10_tell 102 = .ok (.istore_n 2, 1) := by decide +kernel
theorem dX10_tell_103 : decode cX10_tell 103 = .ok (.iconst 1, 1) := by decide +kernel
theorem dX10_tell_104 : decode cX10_tell 104 = .ok (.istore_n 3, 1) := by decide +kernel
theorem dX10_tell_105 : decode cX10_tell 105 = .ok (.iload_n 3, 1) := by decide +kernel
theorem dX10_tell_106 : decode cX10_tell 106 = .ok (.iconst 5, 1) := by decide +kernel
theorem dX10_tell_107 : decode cX10_tell 107 = .ok (.if_icmp .ge 53, 3) := by decide +kernel
theorem dX10_tell_110 : decode cX10_tell 110 = .ok (.aload_n 0, 1) := by decide +kernel
theorem dX10_tell_111 : decode cX10_tell 111 = .ok (.getfield 157, 3) := by decide +kernel
theorem dX10_tell_114 : decode cX10_tell 114 = .ok (.ifCond .ne 46, 3) := by decide +kernel
theorem dX10_tell_117 : decode cX10_tell 117 = .ok (.aload_n 0, 1) := by decide +kernel
theorem dX10_tell_118 : decode cX10_tell 118 = .ok (.invokevirtual 160, 3) := by decide +kernel
theorem dX10_tell_121 : decode cX10_tell 121 = .ok (.bipush 48, 2) := by decide +kernel
theorem dX10_tell_123 : decode cX10_tell 123 = .ok (.bipush 57, 2) := by decide +kernel
theorem dX10_tell_125 : decode cX10_tell 125 = .ok (.invokestatic 38, 3) := by decide +kernel
theorem dX10_tell_128 : decode cX10_tell 128 = .ok (.ifCond .eq 32, 3) := by decide +kernel
theorem dX10_tell_131 : decode cX10_tell 131 = .ok (.bipush 10, 2) := by decide +kernel
theorem dX10_tell_133 : decode cX10_tell 133 = .ok (.iload_n 2, 1) := by decide +kernel
theorem dX10_tell_134 : decode cX10_tell 134 = .ok (.imul, 1) := by decide +kernel
theorem dX10_tell_135 : decode cX10_tell 135 = .ok (.aload_n 0, 1) := by decide +kernel
theorem dX10_tell_136 : decode cX10_tell 136 = .ok (.invokevirtual 160, 3) := by decide +kernel
theorem dX10_tell_139 : decode cX10_tell 139 = .ok (.iadd, 1) := by decide +kernel
theorem dX10_tell_140 : decode cX10_tell 140 = .ok (.bipush 48, 2) := by decide +kernel
theorem dX10_tell_142 : decode cX10_tell 142 = .ok (.isub, 1) := by decide +kernel
theorem dX10_tell_143 : decode cX10_tell 143 = .ok (.istore_n 2, 1) := by decide +kernel
theorem dX10_tell_144 : decode cX10_tell 144 = .ok (.aload_n 0, 1) := by decide +kernel
theorem dX10_tell_145 : decode cX10_tell 145 = .ok (.dup, 1) := by decide +kernel
theorem dX10_tell_146 : decode cX10_tell 146 = .ok (.getfield 154, 3) := by decide +kernel
theorem dX10_tell_149 : decode cX10_tell 149 = .ok (.iconst 1, 1) := by decide +kernel
theorem dX10_tell_150 : decode cX10_tell 150 = .ok (.iadd, 1) := by decide +kernel
theorem dX10_tell_151 : decode cX10_tell 151 = .ok (.putfield 154, 3) := by decide +kernel
theorem dX10_tell_154 : decode cX10_tell 154 = .ok (.iinc 3 1, 3) := by decide +kernel
theorem dX10_tell_157 : decode cX10_tell 157 = .ok (.goto (-52), 3) := by decide +kernel
theorem dX10_tell_160 : decode cX10_tell 160 = .ok (.aload_n 0, 1) := by decide +kernel
theorem dX10_tell_161 : decode cX10_tell 161 = .ok (.getfield 35, 3) := by decide +kernel
theorem dX10_tell_164 : decode cX10_tell 164 = .ok (.iconst 4, 1) := by decide +kernel
theorem dX10_tell_165 : decode cX10_tell 165 = .ok (.iload_n 1, 1) := by decide +kernel
theorem dX10_tell_166 : decode cX10_tell 166 = .ok (.imul, 1) := by decide +kernel
theorem dX10_tell_167 : decode cX10_tell 167 = .ok (.iconst 3, 1) := by decide +kernel
theorem dX10_tell_168 : decode cX10_tell 168 = .ok (.iadd, 1) := by decide +kernel
theorem dX10_tell_169 : decode cX10_tell 169 = .ok (.iload_n 2, 1) := by decide +kernel
theorem dX10_tell_170 : decode cX10_tell 170 = .ok (.iastore, 1) := by decide +kernel
theorem dX10_tell_171 : decode cX10_tell 171 = .ok (.return_, 1) := by decide +kernel
theorem dX10_readFundings_0 : decode cX10_readFundings 0 = .ok (.aload_n 0, 1) := by decide +kernel
theorem dX10_readFundings_1 : decode cX10_readFundings 1 = .ok (.invokevirtual 58, 3) := by decide +kernel
theorem dX10_readFundings_4 : decode cX10_readFundings 4 = .ok (.aload_n 0, 1) := by decide +kernel
theorem dX10_readFundings_5 : decode cX10_readFundings 5 = .ok (.iconst 0, 1) := by decide +kernel
theorem dX10_readFundings_6 : decode cX10_readFundings 6 = .ok (.putfield 154, 3) := by decide +kernel
theorem dX10_readFundings_9 : decode cX10_readFundings 9 = .ok (.aload_n 0, 1) := by decide +kernel
theorem dX10_readFundings_10 : decode cX10_readFundings 10 = .ok (.iconst 0, 1) := by decide +kernel
theorem dX10_readFundings_11 : decode cX10_readFundings 11 = .ok (.putfield 157, 3) := by decide +kernel
theorem dX10_readFundings_14 : decode cX10_readFundings 14 = .ok (.iconst 0, 1) := by decide +kernel
theorem dX10_readFundings_15 : decode cX10_readFundings 15 = .ok (.istore_n 1, 1) := by decide +kernel
theorem dX10_readFundings_16 : decode cX10_readFundings 16 = .ok (.iconst 1, 1) := by decide +kernel
theorem dX10_readFundings_17 : decode cX10_readFundings 17 = .ok (.istore_n 2, 1) := by decide +kernel
theorem dX10_readFundings_18 : decode cX10_readFundings 18 = .ok (.iload_n 2, 1) := by decide +kernel
theorem dX10_readFundings_19 : decode cX10_readFundings 19 = .ok (.ifCond .eq 73, 3) := by decide +kernel
theorem dX10_readFundings_22 : decode cX10_readFundings 22 = .ok (.aload_n 0, 1) := by decide +kernel
theorem dX10_readFundings_23 : decode cX10_readFundings 23 = .ok (.iload_n 1, 1) := by decide +kernel
theorem dX10_readFundings_24 : decode cX10_readFundings 24 = .ok (.invokevirtual 170, 3) := by decide +kernel
theorem dX10_readFundings_27 : decode cX10_readFundings 27 = .ok (.iinc 1 1, 3) := by decide +kernel
theorem dX10_readFundings_30 : decode cX10_readFundings 30 = .ok (.aload_n 0, 1) := by decide +kernel
theorem dX10_readFundings_31 : decode cX10_readFundings 31 = .ok (.getfield 157, 3) := by decide +kernel
theorem dX10_readFundings_34 : decode cX10_readFundings 34 = .ok (.ifCond .ne 18, 3) := by decide +kernel
theorem dX10_readFundings_37 : decode cX10_readFundings 37 = .ok (.aload_n 0, 1) := by decide +kernel
theorem dX10_readFundings_38 : decode cX10_readFundings 38 = .ok (.getfield 154, 3) := by decide +kernel
theorem dX10_readFundings_41 : decode cX10_readFundings 41 = .ok (.aload_n 0, 1) := by decide +kernel
theorem dX10_readFundings_42 : decode cX10_readFundings 42 = .ok (.getfield 151, 3) := by decide +kernel
theorem dX10_readFundings_45 : decode cX10_readFundings 45 = .ok (.if_icmp .ge 7, 3) := by decide +kernel
theorem dX10_readFundings_48 : decode cX10_readFundings 48 = .ok (.iconst 1, 1) := by decide +kernel
theorem dX10_readFundings_49 : decode cX10_readFundings 49 = .ok (.goto 4, 3) := by decide +kernel
theorem dX10_readFundings_52 : decode cX10_readFundings 52 = .ok (.iconst 0, 1) := by decide +kernel
theorem dX10_readFundings_53 : decode cX10_readFundings 53 = .ok (.istore_n 2, 1) := by decide +kernel
theorem dX10_readFundings_54 : decode cX10_readFundings 54 = .ok (.iload_n 2, 1) := by decide +kernel
theorem dX10_readFundings_55 : decode cX10_readFundings 55 = .ok (.ifCond .eq (-37), 3) := by decide +kernel
theorem dX10_readFundings_58 : decode cX10_readFundings 58 = .ok (.aload_n 0, 1) := by decide +kernel
theorem dX10_readFundings_59 : decode cX10_readFundings 59 = .ok (.aload_n 0, 1) := by decide +kernel
theorem dX10_readFundings_60 : decode cX10_readFundings 60 = .ok (.invokevirtual 160, 3) := by decide +kernel
theorem dX10_readFundings_63 : decode cX10_readFundings 63 = .ok (.bipush 59, 2) := by decide +kernel
theorem dX10_readFundings_65 : decode cX10_readFundings 65 = .ok (.if_icmp .ne 7, 3) := by decide +kernel
theorem dX10_readFundings_68 : decode cX10_readFundings 68 = .ok (.iconst 1, 1) := by decide +kernel
theorem dX10_readFundings_69 : decode cX10_readFundings 69 = .ok (.goto 4, 3) := by decide +kernel
theorem dX10_readFundings_72 : decode cX10_readFundings 72 = .ok (.iconst 0, 1) := by decide +kernel
theorem dX10_readFundings_73 : decode cX10_readFundings 73 = .ok (.invokevirtual 163, 3) := by decide +kernel
theorem dX10_readFundings_76 : decode cX10_readFundings 76 = .ok (.aload_n 0, 1) := by decide +kernel
theorem dX10_readFundings_77 : decode cX10_readFundings 77 = .ok (.getfield 157, 3) := by decide +kernel
theorem dX10_readFundings_80 : decode cX10_readFundings 80 = .ok (.ifCond .ne 7, 3) := by decide +kernel
theorem dX10_readFundings_83 : decode cX10_readFundings 83 = .ok (.iconst 1, 1) := by decide +kernel
theorem dX10_readFundings_84 : decode cX10_readFundings 84 = .ok (.goto 4, 3) := by decide +kernel
theorem dX10_readFundings_87 : decode cX10_readFundings 87 = .ok (.iconst 0, 1) := by decide +kernel
theorem dX10_readFundings_88 : decode cX10_readFundings 88 = .ok (.istore_n 2, 1) := by decide +kernel
theorem dX10_readFundings_89 : decode cX10_readFundings 89 = .ok (.goto (-71), 3) := by decide +kernel
theorem dX10_readFundings_92 : decode cX10_readFundings 92 = .ok (.aload_n 0, 1) := by decide +kernel
theorem dX10_readFundings_93 : decode cX10_readFundings 93 = .ok (.getfield 157, 3) := by decide +kernel
theorem dX10_readFundings_96 : decode cX10_readFundings 96 = .ok (.ifCond .eq 11, 3) := by decide +kernel
theorem dX10_readFundings_99 : decode cX10_readFundings 99 = .ok (.bipush (-100), 2) := by decide +kernel
theorem dX10_readFundings_101 : decode cX10_readFundings 101 = .ok (.aload_n 0, 1) := by decide +kernel
theorem dX10_readFundings_102 : decode cX10_readFundings 102 = .ok (.getfield 154, 3) := by decide +kernel
theorem dX10_readFundings_105 : decode cX10_readFundings 105 = .ok (.isub, 1) := by decide +kernel
theorem dX10_readFundings_106 : decode cX10_readFundings 106 = .ok (.ireturn, 1) := by decide +kernel
theorem dX10_readFundings_107 : decode cX10_readFundings 107 = .ok (.iconst 0, 1) := by decide +kernel
theorem dX10_readFundings_108 : decode cX10_readFundings 108 = .ok (.istore_n 3, 1) := by decide +kernel
theorem dX10_readFundings_109 : decode cX10_readFundings 109 = .ok (.iload_n 3, 1) := by decide +kernel
theorem dX10_readFundings_110 : decode cX10_readFundings 110 = .ok (.iload_n 1, 1) := by decide +kernel
theorem dX10_readFundings_111 : decode cX10_readFundings 111 = .ok (.if_icmp .ge 65, 3) := by decide +kernel
theorem dX10_readFundings_114 : decode cX10_readFundings 114 = .ok (.aload_n 0, 1) := by decide +kernel
theorem dX10_readFundings_115 : decode cX10_readFundings 115 = .ok (.aload_n 0, 1) := by decide +kernel
theorem dX10_readFundings_116 : decode cX10_readFundings 116 = .ok (.getfield 35, 3) := by decide +kernel
theorem dX10_readFundings_119 : decode cX10_readFundings 119 = .ok (.iconst 4, 1) := by decide +kernel
theorem dX10_readFundings_120 : decode cX10_readFundings 120 = .ok (.iload_n 3, 1) := by decide +kernel
theorem dX10_readFundings_121 : decode cX10_readFundings 121 = .ok (.imul, 1) := by decide +kernel
theorem dX10_readFundings_122 : decode cX10_readFundings 122 = .ok (.iaload, 1) := by decide +kernel
theorem dX10_readFundings_123 : decode cX10_readFundings 123 = .ok (.aload_n 0, 1) := by decide +kernel
theorem dX10_readFundings_124 : decode cX10_readFundings 124 = .ok (.getfield 35, 3) := by decide +kernel
theorem dX10_readFundings_127 : decode cX10_readFundings 127 = .ok (.iconst 4, 1) := by decide +kernel
theorem dX10_readFundings_128 : decode cX10_readFundings 128 = .ok (.iload_n 3, 1) := by decide +kernel
theorem dX10_readFundings_129 : decode cX10_readFundings 129 = .ok (.imul, 1) := by decide +kernel
theorem dX10_readFundings_130 : decode cX10_readFundings 130 = .ok (.iconst 1, 1) := by decide +kernel
theorem dX10_readFundings_131 : decode cX10_readFundings 131 = .ok (.iadd, 1) := by decide +kernel
theorem dX10_readFundings_132 : decode cX10_readFundings 132 = .ok (.iaload, 1) := by decide +kernel
theorem dX10_readFundings_133 : decode cX10_readFundings 133 = .ok (.aload_n 0, 1) := by decide +kernel
theorem dX10_readFundings_134 : decode cX10_readFundings 134 = .ok (.getfield 35, 3) := by decide +kernel
theorem dX10_readFundings_137 : decode cX10_readFundings 137 = .ok (.iconst 4, 1) := by decide +kernel
theorem dX10_readFundings_138 : decode cX10_readFundings 138 = .ok (.iload_n 3, 1) := by decide +kernel
theorem dX10_readFundings_139 : decode cX10_readFundings 139 = .ok (.imul, 1) := by decide +kernel
theorem dX10_readFundings_140 : decode cX10_readFundings 140 = .ok (.iconst 2, 1) := by decide +kernel
theorem dX10_readFundings_141 : decode cX10_readFundings 141 = .ok (.iadd, 1) := by decide +kernel
theorem dX10_readFundings_142 : decode cX10_readFundings 142 = .ok (.iaload, 1) := by decide +kernel
theorem dX10_readFundings_143 : decode cX10_readFundings 143 = .ok (.aload_n 0, 1) := by decide +kernel
theorem dX10_readFundings_144 : decode cX10_readFundings 144 = .ok (.getfield 35, 3) := by decide +kernel
theorem dX10_readFundings_147 : decode cX10_readFundings 147 = .ok (.iconst 4, 1) := by decide +kernel
theorem dX10_readFundings_148 : decode cX10_readFundings 148 = .ok (.iload_n 3, 1) := by decide +kernel
theorem dX10_readFundings_149 : decode cX10_readFundings 149 = .ok (.imul, 1) := by decide +kernel
theorem dX10_readFundings_150 : decode cX10_readFundings 150 = .ok (.iconst 3, 1) := by decide +kernel
theorem dX10_readFundings_151 : decode cX10_readFundings 151 = .ok (.iadd, 1) := by decide +kernel
theorem dX10_readFundings_152 : decode cX10_readFundings 152 = .ok (.iaload, 1) := by decide +kernel
theorem dX10_readFundings_153 : decode cX10_readFundings 153 = .ok (.invokevirtual 93, 3) := by decide +kernel
theorem dX10_readFundings_156 : decode cX10_readFundings 156 = .ok (.istore 4, 2) := by decide +kernel
theorem dX10_readFundings_158 : decode cX10_readFundings 158 = .ok (.iload 4, 2) := by decide +kernel
theorem dX10_readFundings_160 : decode cX10_readFundings 160 = .ok (.ifCond .ge 10, 3) := by decide +kernel
theorem dX10_readFundings_163 : decode cX10_readFundings 163 = .ok (.aload_n 0, 1) := by decide +kernel
theorem dX10_readFundings_164 : decode cX10_readFundings 164 = .ok (.invokevirtual 50, 3) := by decide +kernel
theorem dX10_readFundings_167 : decode cX10_readFundings 167 = .ok (.iload 4, 2) := by decide +kernel
theorem dX10_readFundings_169 : decode cX10_readFundings 169 = .ok (.ireturn, 1) := by decide +kernel
theorem dX10_readFundings_170 : decode cX10_readFundings 170 = .ok (.iinc 3 1, 3) := by decide +kernel
theorem dX10_readFundings_173 : decode cX10_readFundings 173 = .ok (.goto (-64), 3) := by decide +kernel
theorem dX10_readFundings_176 : decode cX10_readFundings 176 = .ok (.aload_n 0, 1) := by decide +kernel
theorem dX10_readFundings_177 : decode cX10_readFundings 177 = .ok (.iload_n 1, 1) := by decide +kernel
theorem dX10_readFundings_178 : decode cX10_readFundings 178 = .ok (.invokevirtual 61, 3) := by decide +kernel
theorem dX10_readFundings_181 : decode cX10_readFundings 181 = .ok (.ireturn, 1) := by decide +kernel
theorem dX10_undo_0 : decode cX10_undo 0 = .ok (.aload_n 0, 1) := by decide +kernel
theorem dX10_undo_1 : decode cX10_undo 1 = .ok (.iconst 0, 1) := by decide +kernel
theorem dX10_undo_2 : decode cX10_undo 2 = .ok (.putfield 1, 3) := by decide +kernel
theorem dX10_undo_5 : decode cX10_undo 5 = .ok (.aload_n 0, 1) := by decide +kernel
theorem dX10_undo_6 : decode cX10_undo 6 = .ok (.getfield 53, 3) := by decide +kernel
theorem dX10_undo_9 : decode cX10_undo 9 = .ok (.ifCond .ne 6, 3) := by decide +kernel
theorem dX10_undo_12 : decode cX10_undo 12 = .ok (.bipush (-5), 2) := by decide +kernel
theorem dX10_undo_14 : decode cX10_undo 14 = .ok (.ireturn, 1) := by decide +kernel
theorem dX10_undo_15 : decode cX10_undo 15 = .ok (.aload_n 0, 1) := by decide +kernel
theorem dX10_undo_16 : decode cX10_undo 16 = .ok (.dup, 1) := by decide +kernel
theorem dX10_undo_17 : decode cX10_undo 17 = .ok (.getfield 53, 3) := by decide +kernel
theorem dX10_undo_20 : decode cX10_undo 20 = .ok (.iconst 1, 1) := by decide +kernel
theorem dX10_undo_21 : decode cX10_undo 21 = .ok (.isub, 1) := by decide +kernel
theorem dX10_undo_22 : decode cX10_undo 22 = .ok (.putfield 53, 3) := by decide +kernel
theorem dX10_undo_25 : decode cX10_undo 25 = .ok (.iconst 0, 1) := by decide +kernel
theorem dX10_undo_26 : decode cX10_undo 26 = .ok (.istore_n 1, 1) := by decide +kernel
theorem dX10_undo_27 : decode cX10_undo 27 = .ok (.iload_n 1, 1) := by decide +kernel
theorem dX10_undo_28 : decode cX10_undo 28 = .ok (.sipush 564, 3) := by decide +kernel
theorem dX10_undo_31 : decode cX10_undo 31 = .ok (.if_icmp .ge 30, 3) := by decide +kernel
theorem dX10_undo_34 : decode cX10_undo 34 = .ok (.aload_n 0, 1) := by decide +kernel
theorem dX10_undo_35 : decode cX10_undo 35 = .ok (.getfield 13, 3) := by decide +kernel
theorem dX10_undo_38 : decode cX10_undo 38 = .ok (.iload_n 1, 1) := by decide +kernel
theorem dX10_undo_39 : decode cX10_undo 39 = .ok (.aload_n 0, 1) := by decide +kernel
theorem dX10_undo_40 : decode cX10_undo 40 = .ok (.getfield 23, 3) := by decide +kernel
theorem dX10_undo_43 : decode cX10_undo 43 = .ok (.sipush 564, 3) := by decide +kernel
theorem dX10_undo_46 : decode cX10_undo 46 = .ok (.aload_n 0, 1) := by decide +kernel
theorem dX10_undo_47 : decode cX10_undo 47 = .ok (.getfield 53, 3) := by decide +kernel
theorem dX10_undo_50 : decode cX10_undo 50 = .ok (.imul, 1) := by decide +kernel
theorem dX10_undo_51 : decode cX10_undo 51 = .ok (.iload_n 1, 1) := by decide +kernel
theorem dX10_undo_52 : decode cX10_undo 52 = .ok (.iadd, 1) := by decide +kernel
theorem dX10_undo_53 : decode cX10_undo 53 = .ok (.iaload, 1) := by decide +kernel
theorem dX10_undo_54 : decode cX10_undo 54 = .ok (.iastore, 1) := by decide +kernel
theorem dX10_undo_55 : decode cX10_undo 55 = .ok (.iinc 1 1, 3) := by decide +kernel
theorem dX10_undo_58 : decode cX10_undo 58 = .ok (.goto (-31), 3) := by decide +kernel
theorem dX10_undo_61 : decode cX10_undo 61 = .ok (.aload_n 0, 1) := by decide +kernel
theorem dX10_undo_62 : decode cX10_undo 62 = .ok (.getfield 53, 3) := by decide +kernel
theorem dX10_undo_65 : decode cX10_undo 65 = .ok (.ireturn, 1) := by decide +kernel
theorem dX10_keep_0 : decode cX10_keep 0 = .ok (.aload_n 0, 1) := by decide +kernel
theorem dX10_keep_1 : decode cX10_keep 1 = .ok (.iconst 0, 1) := by decide +kernel
theorem dX10_keep_2 : decode cX10_keep 2 = .ok (.putfield 1, 3) := by decide +kernel
theorem dX10_keep_5 : decode cX10_keep 5 = .ok (.iconst 0, 1) := by decide +kernel
theorem dX10_keep_6 : decode cX10_keep 6 = .ok (.istore_n 1, 1) := by decide +kernel
theorem dX10_keep_7 : decode cX10_keep 7 = .ok (.iload_n 1, 1) := by decide +kernel
theorem dX10_keep_8 : decode cX10_keep 8 = .ok (.sipush 564, 3) := by decide +kernel
theorem dX10_keep_11 : decode cX10_keep 11 = .ok (.if_icmp .ge 21, 3) := by decide +kernel
theorem dX10_keep_14 : decode cX10_keep 14 = .ok (.aload_n 0, 1) := by decide +kernel
theorem dX10_keep_15 : decode cX10_keep 15 = .ok (.getfield 20, 3) := by decide +kernel
theorem dX10_keep_18 : decode cX10_keep 18 = .ok (.iload_n 1, 1) := by decide +kernel
theorem dX10_keep_19 : decode cX10_keep 19 = .ok (.aload_n 0, 1) := by decide +kernel
theorem dX10_keep_20 : decode cX10_keep 20 = .ok (.getfield 13, 3) := by decide +kernel
theorem dX10_keep_23 : decode cX10_keep 23 = .ok (.iload_n 1, 1) := by decide +kernel
theorem dX10_keep_24 : decode cX10_keep 24 = .ok (.iaload, 1) := by decide +kernel
theorem dX10_keep_25 : decode cX10_keep 25 = .ok (.iastore, 1) := by decide +kernel
theorem dX10_keep_26 : decode cX10_keep 26 = .ok (.iinc 1 1, 3) := by decide +kernel
theorem dX10_keep_29 : decode cX10_keep 29 = .ok (.goto (-22), 3) := by decide +kernel
theorem dX10_keep_32 : decode cX10_keep 32 = .ok (.aload_n 0, 1) := by decide +kernel
theorem dX10_keep_33 : decode cX10_keep 33 = .ok (.iconst 1, 1) := by decide +kernel
theorem dX10_keep_34 : decode cX10_keep 34 = .ok (.putfield 173, 3) := by decide +kernel
theorem dX10_keep_37 : decode cX10_keep 37 = .ok (.aload_n 0, 1) := by decide +kernel
theorem dX10_keep_38 : decode cX10_keep 38 = .ok (.getfield 13, 3) := by decide +kernel
theorem dX10_keep_41 : decode cX10_keep 41 = .ok (.iconst 3, 1) := by decide +kernel
theorem dX10_keep_42 : decode cX10_keep 42 = .ok (.iaload, 1) := by decide +kernel
theorem dX10_keep_43 : decode cX10_keep 43 = .ok (.ireturn, 1) := by decide +kernel
theorem dX10_restore_0 : decode cX10_restore 0 = .ok (.aload_n 0, 1) := by decide +kernel
theorem dX10_restore_1 : decode cX10_restore 1 = .ok (.invokevirtual 58, 3) := by decide +kernel
theorem dX10_restore_4 : decode cX10_restore 4 = .ok (.aload_n 0, 1) := by decide +kernel
theorem dX10_restore_5 : decode cX10_restore 5 = .ok (.getfield 173, 3) := by decide +kernel
theorem dX10_restore_8 : decode cX10_restore 8 = .ok (.ifCond .ne 6, 3) := by decide +kernel
theorem dX10_restore_11 : decode cX10_restore 11 = .ok (.bipush (-5), 2) := by decide +kernel
theorem dX10_restore_13 : decode cX10_restore 13 = .ok (.ireturn, 1) := by decide +kernel
theorem dX10_restore_14 : decode cX10_restore 14 = .ok (.iconst 0, 1) := by decide +kernel
theorem dX10_restore_15 : decode cX10_restore 15 = .ok (.istore_n 1, 1) := by decide +kernel
theorem dX10_restore_16 : decode cX10_restore 16 = .ok (.iload_n 1, 1) := by decide +kernel
theorem dX10_restore_17 : decode cX10_restore 17 = .ok (.sipush 564, 3) := by decide +kernel
theorem dX10_restore_20 : decode cX10_restore 20 = .ok (.if_icmp .ge 21, 3) := by decide +kernel
theorem dX10_restore_23 : decode cX10_restore 23 = .ok (.aload_n 0, 1) := by decide +kernel
theorem dX10_restore_24 : decode cX10_restore 24 = .ok (.getfield 13, 3) := by decide +kernel
theorem dX10_restore_27 : decode cX10_restore 27 = .ok (.iload_n 1, 1) := by decide +kernel
theorem dX10_restore_28 : decode cX10_restore 28 = .ok (.aload_n 0, 1) := by decide +kernel
theorem dX10_restore_29 : decode cX10_restore 29 = .ok (.getfield 20, 3) := by decide +kernel
theorem dX10_restore_32 : decode cX10_restore 32 = .ok (.iload_n 1, 1) := by decide +kernel
theorem dX10_restore_33 : decode cX10_restore 33 = .ok (.iaload, 1) := by decide +kernel
theorem dX10_restore_34 : decode cX10_restore 34 = .ok (.iastore, 1) := by decide +kernel
theorem dX10_restore_35 : decode cX10_restore 35 = .ok (.iinc 1 1, 3) := by decide +kernel
theorem dX10_restore_38 : decode cX10_restore 38 = .ok (.goto (-22), 3) := by decide +kernel
theorem dX10_restore_41 : decode cX10_restore 41 = .ok (.aload_n 0, 1) := by decide +kernel
theorem dX10_restore_42 : decode cX10_restore 42 = .ok (.aload_n 0, 1) := by decide +kernel
theorem dX10_restore_43 : decode cX10_restore 43 = .ok (.getfield 13, 3) := by decide +kernel
theorem dX10_restore_46 : decode cX10_restore 46 = .ok (.iconst 3, 1) := by decide +kernel
theorem dX10_restore_47 : decode cX10_restore 47 = .ok (.iaload, 1) := by decide +kernel
theorem dX10_restore_48 : decode cX10_restore 48 = .ok (.invokevirtual 61, 3) := by decide +kernel
theorem dX10_restore_51 : decode cX10_restore 51 = .ok (.ireturn, 1) := by decide +kernel
theorem dX10_held_0 : decode cX10_held 0 = .ok (.iconst 0, 1) := by decide +kernel
theorem dX10_held_1 : decode cX10_held 1 = .ok (.istore_n 3, 1) := by decide +kernel
theorem dX10_held_2 : decode cX10_held 2 = .ok (.iconst 0, 1) := by decide +kernel
theorem dX10_held_3 : decode cX10_held 3 = .ok (.istore 4, 2) := by decide +kernel
theorem dX10_held_5 : decode cX10_held 5 = .ok (.iload 4, 2) := by decide +kernel
theorem dX10_held_7 : decode cX10_held 7 = .ok (.aload_n 0, 1) := by decide +kernel
theorem dX10_held_8 : decode cX10_held 8 = .ok (.getfield 13, 3) := by decide +kernel
theorem dX10_held_11 : decode cX10_held 11 = .ok (.iconst 3, 1) := by decide +kernel
theorem dX10_held_12 : decode cX10_held 12 = .ok (.iaload, 1) := by decide +kernel
theorem dX10_held_13 : decode cX10_held 13 = .ok (.if_icmp .ge 70, 3) := by decide +kernel
theorem dX10_held_16 : decode cX10_held 16 = .ok (.aload_n 0, 1) := by decide +kernel
theorem dX10_held_17 : decode cX10_held 17 = .ok (.iload 4, 2) := by decide +kernel
theorem dX10_held_19 : decode cX10_held 19 = .ok (.iconst 0, 1) := by decide +kernel
theorem dX10_held_20 : decode cX10_held 20 = .ok (.invokevirtual 78, 3) := by decide +kernel
theorem dX10_held_23 : decode cX10_held 23 = .ok (.iload_n 1, 1) := by decide +kernel
theorem dX10_held_24 : decode cX10_held 24 = .ok (.if_icmp .ne 53, 3) := by decide +kernel
theorem dX10_held_27 : decode cX10_held 27 = .ok (.aload_n 0, 1) := by decide +kernel
theorem dX10_held_28 : decode cX10_held 28 = .ok (.iload 4, 2) := by decide +kernel
theorem dX10_held_30 : decode cX10_held 30 = .ok (.iconst 3, 1) := by decide +kernel
theorem dX10_held_31 : decode cX10_held 31 = .ok (.invokevirtual 78, 3) := by decide +kernel
theorem dX10_held_34 : decode cX10_held 34 = .ok (.ifCond .le 43, 3) := by decide +kernel
theorem dX10_held_37 : decode cX10_held 37 = .ok (.iload_n 2, 1) := by decide +kernel
theorem dX10_held_38 : decode cX10_held 38 = .ok (.iconst 1, 1) := by decide +kernel
theorem dX10_held_39 : decode cX10_held 39 = .ok (.if_icmp .ne 15, 3) := by decide +kernel
theorem dX10_held_42 : decode cX10_held 42 = .ok (.iload_n 3, 1) := by decide +kernel
theorem dX10_held_43 : decode cX10_held 43 = .ok (.aload_n 0, 1) := by decide +kernel
theorem dX10_held_44 : decode cX10_held 44 = .ok (.iload 4, 2) := by decide +kernel
theorem dX10_held_46 : decode cX10_held 46 = .ok (.iconst 3, 1) := by decide +kernel
theorem dX10_held_47 : decode cX10_held 47 = .ok (.invokevirtual 78, 3) := by decide +kernel
theorem dX10_held_50 : decode cX10_held 50 = .ok (.iadd, 1) := by decide +kernel
theorem dX10_held_51 : decode cX10_held 51 = .ok (.goto 25, 3) := by decide +kernel
theorem dX10_held_54 : decode cX10_held 54 = .ok (.iload_n 2, 1) := by decide +kernel
theorem dX10_held_55 : decode cX10_held 55 = .ok (.iconst 2, 1) := by decide +kernel
theorem dX10_held_56 : decode cX10_held 56 = .ok (.if_icmp .ne 9, 3) := by decide +kernel
theorem dX10_held_59 : decode cX10_held 59 = .ok (.iload_n 3, 1) := by decide +kernel
theorem dX10_held_60 : decode cX10_held 60 = .ok (.iconst 1, 1) := by decide +kernel
theorem dX10_held_61 : decode cX10_held 61 = .ok (.iadd, 1) := by decide +kernel
theorem dX10_held_62 : decode cX10_held 62 = .ok (.goto 14, 3) := by decide +kernel
theorem dX10_held_65 : decode cX10_held 65 = .ok (.iload_n 3, 1) := by decide +kernel
theorem dX10_held_66 : decode cX10_held 66 = .ok (.iconst 1, 1) := by decide +kernel
theorem dX10_held_67 : decode cX10_held 67 = .ok (.aload_n 0, 1) := by decide +kernel
theorem dX10_held_68 : decode cX10_held 68 = .ok (.iload 4, 2) := by decide +kernel
theorem dX10_held_70 : decode cX10_held 70 = .ok (.iconst 1, 1) := by decide +kernel
theorem dX10_held_71 : decode cX10_held 71 = .ok (.invokevirtual 78, 3) := by decide +kernel
theorem dX10_held_74 : decode cX10_held 74 = .ok (.ishl, 1) := by decide +kernel
theorem dX10_held_75 : decode cX10_held 75 = .ok (.ior, 1) := by decide +kernel
theorem dX10_held_76 : decode cX10_held 76 = .ok (.istore_n 3, 1) := by decide +kernel
theorem dX10_held_77 : decode cX10_held 77 = .ok (.iinc 4 1, 3) := by decide +kernel
theorem dX10_held_80 : decode cX10_held 80 = .ok (.goto (-75), 3) := by decide +kernel
theorem dX10_held_83 : decode cX10_held 83 = .ok (.iload_n 3, 1) := by decide +kernel
theorem dX10_held_84 : decode cX10_held 84 = .ok (.ireturn, 1) := by decide +kernel
theorem dX10_investor_0 : decode cX10_investor 0 = .ok (.aload_n 0, 1) := by decide +kernel
theorem dX10_investor_1 : decode cX10_investor 1 = .ok (.iconst 0, 1) := by decide +kernel
theorem dX10_investor_2 : decode cX10_investor 2 = .ok (.putfield 1, 3) := by decide +kernel
theorem dX10_investor_5 : decode cX10_investor 5 = .ok (.aload_n 0, 1) := by decide +kernel
theorem dX10_investor_6 : decode cX10_investor 6 = .ok (.iload_n 1, 1) := by decide +kernel
theorem dX10_investor_7 : decode cX10_investor 7 = .ok (.invokevirtual 65, 3) := by decide +kernel
theorem dX10_investor_10 : decode cX10_investor 10 = .ok (.ifCond .ne 5, 3) := by decide +kernel
theorem dX10_investor_13 : decode cX10_investor 13 = .ok (.iconst (-1), 1) := by decide +kernel
theorem dX10_investor_14 : decode cX10_investor 14 = .ok (.ireturn, 1) := by decide +kernel
theorem dX10_investor_15 : decode cX10_investor 15 = .ok (.iload_n 2, 1) := by decide +kernel
theorem dX10_investor_16 : decode cX10_investor 16 = .ok (.iconst 0, 1) := by decide +kernel
theorem dX10_investor_17 : decode cX10_investor 17 = .ok (.iconst 5, 1) := by decide +kernel
theorem dX10_investor_18 : decode cX10_investor 18 = .ok (.invokestatic 38, 3) := by decide +kernel
theorem dX10_investor_21 : decode cX10_investor 21 = .ok (.ifCond .ne 6, 3) := by decide +kernel
theorem dX10_investor_24 : decode cX10_investor 24 = .ok (.bipush (-2), 2) := by decide +kernel
theorem dX10_investor_26 : decode cX10_investor 26 = .ok (.ireturn, 1) := by decide +kernel
theorem dX10_investor_27 : decode cX10_investor 27 = .ok (.iload_n 2, 1) := by decide +kernel
theorem dX10_investor_28 : decode cX10_investor 28 = .ok (.ifCond .ne 17, 3) := by decide +kernel
theorem dX10_investor_31 : decode cX10_investor 31 = .ok (.aload_n 0, 1) := by decide +kernel
theorem dX10_investor_32 : decode cX10_investor 32 = .ok (.getfield 13, 3) := by decide +kernel
theorem dX10_investor_35 : decode cX10_investor 35 = .ok (.bipush 10, 2) := by decide +kernel
theorem dX10_investor_37 : decode cX10_investor 37 = .ok (.iconst 3, 1) := by decide +kernel
theorem dX10_investor_38 : decode cX10_investor 38 = .ok (.iload_n 1, 1) := by decide +kernel
theorem dX10_investor_39 : decode cX10_investor 39 = .ok (.imul, 1) := by decide +kernel
theorem dX10_investor_40 : decode cX10_investor 40 = .ok (.iadd, 1) := by decide +kernel
theorem dX10_investor_41 : decode cX10_investor 41 = .ok (.iaload, 1) := by decide +kernel
theorem dX10_investor_42 : decode cX10_investor 42 = .ok (.goto 32, 3) := by decide +kernel
theorem dX10_investor_45 : decode cX10_investor 45 = .ok (.iload_n 2, 1) := by decide +kernel
theorem dX10_investor_46 : decode cX10_investor 46 = .ok (.iconst 4, 1) := by decide +kernel
theorem dX10_investor_47 : decode cX10_investor 47 = .ok (.if_icmp .ge 12, 3) := by decide +kernel
theorem dX10_investor_50 : decode cX10_investor 50 = .ok (.aload_n 0, 1) := by decide +kernel
theorem dX10_investor_51 : decode cX10_investor 51 = .ok (.iload_n 1, 1) := by decide +kernel
theorem dX10_investor_52 : decode cX10_investor 52 = .ok (.iload_n 2, 1) := by decide +kernel
theorem dX10_investor_53 : decode cX10_investor 53 = .ok (.invokevirtual 176, 3) := by decide +kernel
theorem dX10_investor_56 : decode cX10_investor 56 = .ok (.goto 18, 3) := by decide +kernel
theorem dX10_investor_59 : decode cX10_investor 59 = .ok (.aload_n 0, 1) := by decide +kernel
theorem dX10_investor_60 : decode cX10_investor 60 = .ok (.getfield 13, 3) := by decide +kernel
theorem dX10_investor_63 : decode cX10_investor 63 = .ok (.bipush 10, 2) := by decide +kernel
theorem dX10_investor_65 : decode cX10_investor 65 = .ok (.iconst 3, 1) := by decide +kernel
theorem dX10_investor_66 : decode cX10_investor 66 = .ok (.iload_n 1, 1) := by decide +kernel
theorem dX10_investor_67 : decode cX10_investor 67 = .ok (.imul, 1) := by decide +kernel
theorem dX10_investor_68 : decode cX10_investor 68 = .ok (.iadd, 1) := by decide +kernel
theorem dX10_investor_69 : decode cX10_investor 69 = .ok (.iload_n 2, 1) := by decide +kernel
theorem dX10_investor_70 : decode cX10_investor 70 = .ok (.iadd, 1) := by decide +kernel
theorem dX10_investor_71 : decode cX10_investor 71 = .ok (.iconst 3, 1) := by decide +kernel
theorem dX10_investor_72 : decode cX10_investor 72 = .ok (.isub, 1) := by decide +kernel
theorem dX10_investor_73 : decode cX10_investor 73 = .ok (.iaload, 1) := by decide +kernel
theorem dX10_investor_74 : decode cX10_investor 74 = .ok (.ireturn, 1) := by decide +kernel
theorem dX10_notesOf_0 : decode cX10_notesOf 0 = .ok (.iconst 0, 1) := by decide +kernel
theorem dX10_notesOf_1 : decode cX10_notesOf 1 = .ok (.istore_n 2, 1) := by decide +kernel
theorem dX10_notesOf_2 : decode cX10_notesOf 2 = .ok (.iconst 0, 1) := by decide +kernel
theorem dX10_notesOf_3 : decode cX10_notesOf 3 = .ok (.istore_n 3, 1) := by decide +kernel
theorem dX10_notesOf_4 : decode cX10_notesOf 4 = .ok (.iload_n 3, 1) := by decide +kernel
theorem dX10_notesOf_5 : decode cX10_notesOf 5 = .ok (.aload_n 0, 1) := by decide +kernel
theorem dX10_notesOf_6 : decode cX10_notesOf 6 = .ok (.getfield 13, 3) := by decide +kernel
theorem dX10_notesOf_9 : decode cX10_notesOf 9 = .ok (.iconst 3, 1) := by decide +kernel
theorem dX10_notesOf_10 : decode cX10_notesOf 10 = .ok (.iaload, 1) := by decide +kernel
theorem dX10_notesOf_11 : decode cX10_notesOf 11 = .ok (.if_icmp .ge 27, 3) := by decide +kernel
theorem dX10_notesOf_14 : decode cX10_notesOf 14 = .ok (.iload_n 2, 1) := by decide +kernel
theorem dX10_notesOf_15 : decode cX10_notesOf 15 = .ok (.aload_n 0, 1) := by decide +kernel
theorem dX10_notesOf_16 : decode cX10_notesOf 16 = .ok (.iload_n 3, 1) := by decide +kernel
theorem dX10_notesOf_17 : decode cX10_notesOf 17 = .ok (.iconst 1, 1) := by decide +kernel
theorem dX10_notesOf_18 : decode cX10_notesOf 18 = .ok (.invokevirtual 78, 3) := by decide +kernel
theorem dX10_notesOf_21 : decode cX10_notesOf 21 = .ok (.iload_n 1, 1) := by decide +kernel
theorem dX10_notesOf_22 : decode cX10_notesOf 22 = .ok (.if_icmp .ne 7, 3) := by decide +kernel
theorem dX10_notesOf_25 : decode cX10_notesOf 25 = .ok (.iconst 1, 1) := by decide +kernel
theorem dX10_notesOf_26 : decode cX10_notesOf 26 = .ok (.goto 4, 3) := by decide +kernel
theorem dX10_notesOf_29 : decode cX10_notesOf 29 = .ok (.iconst 0, 1) := by decide +kernel
theorem dX10_notesOf_30 : decode cX10_notesOf 30 = .ok (.iadd, 1) := by decide +kernel
theorem dX10_notesOf_31 : decode cX10_notesOf 31 = .ok (.istore_n 2, 1) := by decide +kernel
theorem dX10_notesOf_32 : decode cX10_notesOf 32 = .ok (.iinc 3 1, 3) := by decide +kernel
theorem dX10_notesOf_35 : decode cX10_notesOf 35 = .ok (.goto (-31), 3) := by decide +kernel
theorem dX10_notesOf_38 : decode cX10_notesOf 38 = .ok (.iload_n 2, 1) := by decide +kernel
theorem dX10_notesOf_39 : decode cX10_notesOf 39 = .ok (.ireturn, 1) := by decide +kernel
theorem dX10_loan_0 : decode cX10_loan 0 = .ok (.aload_n 0, 1) := by decide +kernel
theorem dX10_loan_1 : decode cX10_loan 1 = .ok (.iconst 0, 1) := by decide +kernel
theorem dX10_loan_2 : decode cX10_loan 2 = .ok (.putfield 1, 3) := by decide +kernel
theorem dX10_loan_5 : decode cX10_loan 5 = .ok (.aload_n 0, 1) := by decide +kernel
theorem dX10_loan_6 : decode cX10_loan 6 = .ok (.iload_n 1, 1) := by decide +kernel
theorem dX10_loan_7 : decode cX10_loan 7 = .ok (.invokevirtual 84, 3) := by decide +kernel
theorem dX10_loan_10 : decode cX10_loan 10 = .ok (.ifCond .ne 5, 3) := by decide +kernel
theorem dX10_loan_13 : decode cX10_loan 13 = .ok (.iconst (-1), 1) := by decide +kernel
theorem dX10_loan_14 : decode cX10_loan 14 = .ok (.ireturn, 1) := by decide +kernel
theorem dX10_loan_15 : decode cX10_loan 15 = .ok (.iload_n 2, 1) := by decide +kernel
theorem dX10_loan_16 : decode cX10_loan 16 = .ok (.tableswitch 132 0 12 #[68, 75, 82, 101, 101, 101, 101, 101, 101, 110, 116, 122, 122], 68) := by decide +kernel
theorem dX10_loan_84 : decode cX10_loan 84 = .ok (.aload_n 0, 1) := by decide +kernel
theorem dX10_loan_85 : decode cX10_loan 85 = .ok (.iload_n 1, 1) := by decide +kernel
theorem dX10_loan_86 : decode cX10_loan 86 = .ok (.iconst 3, 1) := by decide +kernel
theorem dX10_loan_87 : decode cX10_loan 87 = .ok (.invokevirtual 42, 3) := by decide +kernel
theorem dX10_loan_90 : decode cX10_loan 90 = .ok (.ireturn, 1) := by decide +kernel
theorem dX10_loan_91 : decode cX10_loan 91 = .ok (.aload_n 0, 1) := by decide +kernel
theorem dX10_loan_92 : decode cX10_loan 92 = .ok (.iload_n 1, 1) := by decide +kernel
theorem dX10_loan_93 : decode cX10_loan 93 = .ok (.iconst 0, 1) := by decide +kernel
theorem dX10_loan_94 : decode cX10_loan 94 = .ok (.invokevirtual 42, 3) := by decide +kernel
theorem dX10_loan_97 : decode cX10_loan 97 = .ok (.ireturn, 1) := by decide +kernel
theorem dX10_loan_98 : decode cX10_loan 98 = .ok (.aload_n 0, 1) := by decide +kernel
theorem dX10_loan_99 : decode cX10_loan 99 = .ok (.iload_n 1, 1) := by decide +kernel
theorem dX10_loan_100 : decode cX10_loan 100 = .ok (.invokevirtual 114, 3) := by decide +kernel
theorem dX10_loan_103 : decode cX10_loan 103 = .ok (.ifCond .eq 12, 3) := by decide +kernel
theorem dX10_loan_106 : decode cX10_loan 106 = .ok (.aload_n 0, 1) := by decide +kernel
theorem dX10_loan_107 : decode cX10_loan 107 = .ok (.iload_n 1, 1) := by decide +kernel
theorem dX10_loan_108 : decode cX10_loan 108 = .ok (.iconst 4, 1) := by decide +kernel
theorem dX10_loan_109 : decode cX10_loan 109 = .ok (.invokevirtual 42, 3) := by decide +kernel
theorem dX10_loan_112 : decode cX10_loan 112 = .ok (.goto 4, 3) := by decide +kernel
theorem dX10_loan_115 : decode cX10_loan 115 = .ok (.iconst 0, 1) := by decide +kernel
theorem dX10_loan_116 : decode cX10_loan 116 = .ok (.ireturn, 1) := by decide +kernel
theorem dX10_loan_117 : decode cX10_loan 117 = .ok (.aload_n 0, 1) := by decide +kernel
theorem dX10_loan_118 : decode cX10_loan 118 = .ok (.iload_n 1, 1) := by decide +kernel
theorem dX10_loan_119 : decode cX10_loan 119 = .ok (.iload_n 2, 1) := by decide +kernel
theorem dX10_loan_120 : decode cX10_loan 120 = .ok (.iconst 2, 1) := by decide +kernel
theorem dX10_loan_121 : decode cX10_loan 121 = .ok (.iadd, 1) := by decide +kernel
theorem dX10_loan_122 : decode cX10_loan 122 = .ok (.invokevirtual 42, 3) := by decide +kernel
theorem dX10_loan_125 : decode cX10_loan 125 = .ok (.ireturn, 1) := by decide +kernel
theorem dX10_loan_126 : decode cX10_loan 126 = .ok (.aload_n 0, 1) := by decide +kernel
theorem dX10_loan_127 : decode cX10_loan 127 = .ok (.iload_n 1, 1) := by decide +kernel
theorem dX10_loan_128 : decode cX10_loan 128 = .ok (.invokevirtual 87, 3) := by decide +kernel
theorem dX10_loan_131 : decode cX10_loan 131 = .ok (.ireturn, 1) := by decide +kernel
theorem dX10_loan_132 : decode cX10_loan 132 = .ok (.aload_n 0, 1) := by decide +kernel
theorem dX10_loan_133 : decode cX10_loan 133 = .ok (.iload_n 1, 1) := by decide +kernel
theorem dX10_loan_134 : decode cX10_loan 134 = .ok (.invokevirtual 179, 3) := by decide +kernel
theorem dX10_loan_137 : decode cX10_loan 137 = .ok (.ireturn, 1) := by decide +kernel
theorem dX10_loan_138 : decode cX10_loan 138 = .ok (.aload_n 0, 1) := by decide +kernel
theorem dX10_loan_139 : decode cX10_loan 139 = .ok (.iload_n 1, 1) := by decide +kernel
theorem dX10_loan_140 : decode cX10_loan 140 = .ok (.iload_n 2, 1) := by decide +kernel
theorem dX10_loan_141 : decode cX10_loan 141 = .ok (.bipush 11, 2) := by decide +kernel
theorem dX10_loan_143 : decode cX10_loan 143 = .ok (.isub, 1) := by decide +kernel
theorem dX10_loan_144 : decode cX10_loan 144 = .ok (.invokevirtual 81, 3) := by decide +kernel
theorem dX10_loan_147 : decode cX10_loan 147 = .ok (.ireturn, 1) := by decide +kernel
theorem dX10_loan_148 : decode cX10_loan 148 = .ok (.bipush (-2), 2) := by decide +kernel
theorem dX10_loan_150 : decode cX10_loan 150 = .ok (.ireturn, 1) := by decide +kernel
theorem dX10_note_0 : decode cX10_note 0 = .ok (.aload_n 0, 1) := by decide +kernel
theorem dX10_note_1 : decode cX10_note 1 = .ok (.iconst 0, 1) := by decide +kernel
theorem dX10_note_2 : decode cX10_note 2 = .ok (.putfield 1, 3) := by decide +kernel
theorem dX10_note_5 : decode cX10_note 5 = .ok (.aload_n 0, 1) := by decide +kernel
theorem dX10_note_6 : decode cX10_note 6 = .ok (.iload_n 1, 1) := by decide +kernel
theorem dX10_note_7 : decode cX10_note 7 = .ok (.invokevirtual 140, 3) := by decide +kernel
theorem dX10_note_10 : decode cX10_note 10 = .ok (.ifCond .ne 5, 3) := by decide +kernel
theorem dX10_note_13 : decode cX10_note 13 = .ok (.iconst (-1), 1) := by decide +kernel
theorem dX10_note_14 : decode cX10_note 14 = .ok (.ireturn, 1) := by decide +kernel
theorem dX10_note_15 : decode cX10_note 15 = .ok (.iload_n 2, 1) := by decide +kernel
theorem dX10_note_16 : decode cX10_note 16 = .ok (.iconst 0, 1) := by decide +kernel
theorem dX10_note_17 : decode cX10_note 17 = .ok (.bipush 6, 2) := by decide +kernel
theorem dX10_note_19 : decode cX10_note 19 = .ok (.invokestatic 38, 3) := by decide +kernel
theorem dX10_note_22 : decode cX10_note 22 = .ok (.ifCond .eq 12, 3) := by decide +kernel
theorem dX10_note_25 : decode cX10_note 25 = .ok (.aload_n 0, 1) := by decide +kernel
theorem dX10_note_26 : decode cX10_note 26 = .ok (.iload_n 1, 1) := by decide +kernel
theorem dX10_note_27 : decode cX10_note 27 = .ok (.iload_n 2, 1) := by decide +kernel
theorem dX10_note_28 : decode cX10_note 28 = .ok (.invokevirtual 78, 3) := by decide +kernel
theorem dX10_note_31 : decode cX10_note 31 = .ok (.goto 5, 3) := by decide +kernel
theorem dX10_note_34 : decode cX10_note 34 = .ok (.bipush (-2), 2) := by decide +kernel
theorem dX10_note_36 : decode cX10_note 36 = .ok (.ireturn, 1) := by decide +kernel
theorem dX10_split_0 : decode cX10_split 0 = .ok (.aload_n 0, 1) := by decide +kernel
theorem dX10_split_1 : decode cX10_split 1 = .ok (.iconst 0, 1) := by decide +kernel
theorem dX10_split_2 : decode cX10_split 2 = .ok (.putfield 1, 3) := by decide +kernel
theorem dX10_split_5 : decode cX10_split 5 = .ok (.aload_n 0, 1) := by decide +kernel
theorem dX10_split_6 : decode cX10_split 6 = .ok (.iload_n 1, 1) := by decide +kernel
theorem dX10_split_7 : decode cX10_split 7 = .ok (.invokevirtual 84, 3) := by decide +kernel
theorem dX10_split_10 : decode cX10_split 10 = .ok (.ifCond .ne 5, 3) := by decide +kernel
theorem dX10_split_13 : decode cX10_split 13 = .ok (.iconst (-1), 1) := by decide +kernel
theorem dX10_split_14 : decode cX10_split 14 = .ok (.ireturn, 1) := by decide +kernel
theorem dX10_split_15 : decode cX10_split 15 = .ok (.iload_n 2, 1) := by decide +kernel
theorem dX10_split_16 : decode cX10_split 16 = .ok (.iconst 1, 1) := by decide +kernel
theorem dX10_split_17 : decode cX10_split 17 = .ok (.ldc 122, 2) := by decide +kernel
theorem dX10_split_19 : decode cX10_split 19 = .ok (.invokestatic 38, 3) := by decide +kernel
theorem dX10_split_22 : decode cX10_split 22 = .ok (.ifCond .eq 12, 3) := by decide +kernel
theorem dX10_split_25 : decode cX10_split 25 = .ok (.iload_n 3, 1) := by decide +kernel
theorem dX10_split_26 : decode cX10_split 26 = .ok (.iconst 0, 1) := by decide +kernel
theorem dX10_split_27 : decode cX10_split 27 = .ok (.iconst 5, 1) := by decide +kernel
theorem dX10_split_28 : decode cX10_split 28 = .ok (.invokestatic 38, 3) := by decide +kernel
theorem dX10_split_31 : decode cX10_split 31 = .ok (.ifCond .ne 6, 3) := by decide +kernel
theorem dX10_split_34 : decode cX10_split 34 = .ok (.bipush (-2), 2) := by decide +kernel
theorem dX10_split_36 : decode cX10_split 36 = .ok (.ireturn, 1) := by decide +kernel
theorem dX10_split_37 : decode cX10_split 37 = .ok (.aload_n 0, 1) := by decide +kernel
theorem dX10_split_38 : decode cX10_split 38 = .ok (.iload_n 1, 1) := by decide +kernel
theorem dX10_split_39 : decode cX10_split 39 = .ok (.iload_n 2, 1) := by decide +kernel
theorem dX10_split_40 : decode cX10_split 40 = .ok (.invokevirtual 123, 3) := by decide +kernel
theorem dX10_split_43 : decode cX10_split 43 = .ok (.ifCond .eq 13, 3) := by decide +kernel
theorem dX10_split_46 : decode cX10_split 46 = .ok (.aload_n 0, 1) := by decide +kernel
theorem dX10_split_47 : decode cX10_split 47 = .ok (.iload_n 1, 1) := by decide +kernel
theorem dX10_split_48 : decode cX10_split 48 = .ok (.iload_n 2, 1) := by decide +kernel
theorem dX10_split_49 : decode cX10_split 49 = .ok (.iload_n 3, 1) := by decide +kernel
theorem dX10_split_50 : decode cX10_split 50 = .ok (.invokevirtual 127, 3) := by decide +kernel
theorem dX10_split_53 : decode cX10_split 53 = .ok (.goto 5, 3) := by decide +kernel
theorem dX10_split_56 : decode cX10_split 56 = .ok (.bipush (-4), 2) := by decide +kernel
theorem dX10_split_58 : decode cX10_split 58 = .ok (.ireturn, 1) := by decide +kernel
theorem dX10_toRepay_0 : decode cX10_toRepay 0 = .ok (.aload_n 0, 1) := by decide +kernel
theorem dX10_toRepay_1 : decode cX10_toRepay 1 = .ok (.iconst 0, 1) := by decide +kernel
theorem dX10_toRepay_2 : decode cX10_toRepay 2 = .ok (.putfield 1, 3) := by decide +kernel
theorem dX10_toRepay_5 : decode cX10_toRepay 5 = .ok (.aload_n 0, 1) := by decide +kernel
theorem dX10_toRepay_6 : decode cX10_toRepay 6 = .ok (.iload_n 1, 1) := by decide +kernel
theorem dX10_toRepay_7 : decode cX10_toRepay 7 = .ok (.invokevirtual 84, 3) := by decide +kernel
theorem dX10_toRepay_10 : decode cX10_toRepay 10 = .ok (.ifCond .ne 5, 3) := by decide +kernel
theorem dX10_toRepay_13 : decode cX10_toRepay 13 = .ok (.iconst (-1), 1) := by decide +kernel
theorem dX10_toRepay_14 : decode cX10_toRepay 14 = .ok (.ireturn, 1) := by decide +kernel
theorem dX10_toRepay_15 : decode cX10_toRepay 15 = .ok (.aload_n 0, 1) := by decide +kernel
theorem dX10_toRepay_16 : decode cX10_toRepay 16 = .ok (.iload_n 1, 1) := by decide +kernel
theorem dX10_toRepay_17 : decode cX10_toRepay 17 = .ok (.invokevirtual 114, 3) := by decide +kernel
theorem dX10_toRepay_20 : decode cX10_toRepay 20 = .ok (.ifCond .ne 6, 3) := by decide +kernel
theorem dX10_toRepay_23 : decode cX10_toRepay 23 = .ok (.bipush (-4), 2) := by decide +kernel
theorem dX10_toRepay_25 : decode cX10_toRepay 25 = .ok (.ireturn, 1) := by decide +kernel
theorem dX10_toRepay_26 : decode cX10_toRepay 26 = .ok (.aload_n 0, 1) := by decide +kernel
theorem dX10_toRepay_27 : decode cX10_toRepay 27 = .ok (.iload_n 1, 1) := by decide +kernel
theorem dX10_toRepay_28 : decode cX10_toRepay 28 = .ok (.bipush 6, 2) := by decide +kernel
theorem dX10_toRepay_30 : decode cX10_toRepay 30 = .ok (.invokevirtual 42, 3) := by decide +kernel
theorem dX10_toRepay_33 : decode cX10_toRepay 33 = .ok (.aload_n 0, 1) := by decide +kernel
theorem dX10_toRepay_34 : decode cX10_toRepay 34 = .ok (.iload_n 1, 1) := by decide +kernel
theorem dX10_toRepay_35 : decode cX10_toRepay 35 = .ok (.iconst 4, 1) := by decide +kernel
theorem dX10_toRepay_36 : decode cX10_toRepay 36 = .ok (.invokevirtual 42, 3) := by decide +kernel
theorem dX10_toRepay_39 : decode cX10_toRepay 39 = .ok (.iadd, 1) := by decide +kernel
theorem dX10_toRepay_40 : decode cX10_toRepay 40 = .ok (.istore_n 2, 1) := by decide +kernel
theorem dX10_toRepay_41 : decode cX10_toRepay 41 = .ok (.iload_n 2, 1) := by decide +kernel
theorem dX10_toRepay_42 : decode cX10_toRepay 42 = .ok (.istore_n 3, 1) := by decide +kernel
theorem dX10_toRepay_43 : decode cX10_toRepay 43 = .ok (.iload_n 3, 1) := by decide +kernel
theorem dX10_toRepay_44 : decode cX10_toRepay 44 = .ok (.aload_n 0, 1) := by decide +kernel
theorem dX10_toRepay_45 : decode cX10_toRepay 45 = .ok (.iload_n 1, 1) := by decide +kernel
theorem dX10_toRepay_46 : decode cX10_toRepay 46 = .ok (.iload_n 3, 1) := by decide +kernel
theorem dX10_toRepay_47 : decode cX10_toRepay 47 = .ok (.invokevirtual 117, 3) := by decide +kernel
theorem dX10_toRepay_50 : decode cX10_toRepay 50 = .ok (.isub, 1) := by decide +kernel
theorem dX10_toRepay_51 : decode cX10_toRepay 51 = .ok (.iload_n 2, 1) := by decide +kernel
theorem dX10_toRepay_52 : decode cX10_toRepay 52 = .ok (.if_icmp .ge 9, 3) := by decide +kernel
theorem dX10_toRepay_55 : decode cX10_toRepay 55 = .ok (.iinc 3 1, 3) := by decide +kernel
theorem dX10_toRepay_58 : decode cX10_toRepay 58 = .ok (.goto (-15), 3) := by decide +kernel
theorem dX10_toRepay_61 : decode cX10_toRepay 61 = .ok (.iload_n 3, 1) := by decide +kernel
theorem dX10_toRepay_62 : decode cX10_toRepay 62 = .ok (.ireturn, 1) := by decide +kernel
theorem dX10_runningWith_0 : decode cX10_runningWith 0 = .ok (.iconst 0, 1) := by decide +kernel
theorem dX10_runningWith_1 : decode cX10_runningWith 1 = .ok (.istore_n 2, 1) := by decide +kernel
theorem dX10_runningWith_2 : decode cX10_runningWith 2 = .ok (.iconst 0, 1) := by decide +kernel
theorem dX10_runningWith_3 : decode cX10_runningWith 3 = .ok (.istore_n 3, 1) := by decide +kernel
theorem dX10_runningWith_4 : decode cX10_runningWith 4 = .ok (.iload_n 3, 1) := by decide +kernel
theorem dX10_runningWith_5 : decode cX10_runningWith 5 = .ok (.aload_n 0, 1) := by decide +kernel
theorem dX10_runningWith_6 : decode cX10_runningWith 6 = .ok (.getfield 13, 3) := by decide +kernel
theorem dX10_runningWith_9 : decode cX10_runningWith 9 = .ok (.iconst 2, 1) := by decide +kernel
theorem dX10_runningWith_10 : decode cX10_runningWith 10 = .ok (.iaload, 1) := by decide +kernel
theorem dX10_runningWith_11 : decode cX10_runningWith 11 = .ok (.if_icmp .ge 36, 3) := by decide +kernel
theorem dX10_runningWith_14 : decode cX10_runningWith 14 = .ok (.iload_n 2, 1) := by decide +kernel
theorem dX10_runningWith_15 : decode cX10_runningWith 15 = .ok (.aload_n 0, 1) := by decide +kernel
theorem dX10_runningWith_16 : decode cX10_runningWith 16 = .ok (.iload_n 3, 1) := by decide +kernel
theorem dX10_runningWith_17 : decode cX10_runningWith 17 = .ok (.invokevirtual 114, 3) := by decide +kernel
theorem dX10_runningWith_20 : decode cX10_runningWith 20 = .ok (.ifCond .eq 18, 3) := by decide +kernel
theorem dX10_runningWith_23 : decode cX10_runningWith 23 = .ok (.aload_n 0, 1) := by decide +kernel
theorem dX10_runningWith_24 : decode cX10_runningWith 24 = .ok (.iload_n 3, 1) := by decide +kernel
theorem dX10_runningWith_25 : decode cX10_runningWith 25 = .ok (.bipush 9, 2) := by decide +kernel
theorem dX10_runningWith_27 : decode cX10_runningWith 27 = .ok (.invokevirtual 42, 3) := by decide +kernel
theorem dX10_runningWith_30 : decode cX10_runningWith 30 = .ok (.iload_n 1, 1) := by decide +kernel
theorem dX10_runningWith_31 : decode cX10_runningWith 31 = .ok (.if_icmp .ne 7, 3) := by decide +kernel
theorem dX10_runningWith_34 : decode cX10_runningWith 34 = .ok (.iconst 1, 1) := by decide +kernel
theorem dX10_runningWith_35 : decode cX10_runningWith 35 = .ok (.goto 4, 3) := by decide +kernel
theorem dX10_runningWith_38 : decode cX10_runningWith 38 = .ok (.iconst 0, 1) := by decide +kernel
theorem dX10_runningWith_39 : decode cX10_runningWith 39 = .ok (.iadd, 1) := by decide +kernel
theorem dX10_runningWith_40 : decode cX10_runningWith 40 = .ok (.istore_n 2, 1) := by decide +kernel
theorem dX10_runningWith_41 : decode cX10_runningWith 41 = .ok (.iinc 3 1, 3) := by decide +kernel
theorem dX10_runningWith_44 : decode cX10_runningWith 44 = .ok (.goto (-40), 3) := by decide +kernel
theorem dX10_runningWith_47 : decode cX10_runningWith 47 = .ok (.iload_n 2, 1) := by decide +kernel
theorem dX10_runningWith_48 : decode cX10_runningWith 48 = .ok (.ireturn, 1) := by decide +kernel
theorem dX10_servicer_0 : decode cX10_servicer 0 = .ok (.aload_n 0, 1) := by decide +kernel
theorem dX10_servicer_1 : decode cX10_servicer 1 = .ok (.iconst 0, 1) := by decide +kernel
theorem dX10_servicer_2 : decode cX10_servicer 2 = .ok (.putfield 1, 3) := by decide +kernel
theorem dX10_servicer_5 : decode cX10_servicer 5 = .ok (.iload_n 1, 1) := by decide +kernel
theorem dX10_servicer_6 : decode cX10_servicer 6 = .ok (.invokestatic 137, 3) := by decide +kernel
theorem dX10_servicer_9 : decode cX10_servicer 9 = .ok (.ifCond .ne 5, 3) := by decide +kernel
theorem dX10_servicer_12 : decode cX10_servicer 12 = .ok (.iconst (-1), 1) := by decide +kernel
theorem dX10_servicer_13 : decode cX10_servicer 13 = .ok (.ireturn, 1) := by decide +kernel
theorem dX10_servicer_14 : decode cX10_servicer 14 = .ok (.iload_n 2, 1) := by decide +kernel
theorem dX10_servicer_15 : decode cX10_servicer 15 = .ok (.iconst 0, 1) := by decide +kernel
theorem dX10_servicer_16 : decode cX10_servicer 16 = .ok (.iconst 2, 1) := by decide +kernel
theorem dX10_servicer_17 : decode cX10_servicer 17 = .ok (.invokestatic 38, 3) := by decide +kernel
theorem dX10_servicer_20 : decode cX10_servicer 20 = .ok (.ifCond .ne 8, 3) := by decide +kernel
theorem dX10_servicer_23 : decode cX10_servicer 23 = .ok (.bipush (-2), 2) := by decide +kernel
theorem dX10_servicer_25 : decode cX10_servicer 25 = .ok (.goto 36, 3) := by decide +kernel
theorem dX10_servicer_28 : decode cX10_servicer 28 = .ok (.iload_n 2, 1) := by decide +kernel
theorem dX10_servicer_29 : decode cX10_servicer 29 = .ok (.ifCond .ne 10, 3) := by decide +kernel
theorem dX10_servicer_32 : decode cX10_servicer 32 = .ok (.iload_n 1, 1) := by decide +kernel
theorem dX10_servicer_33 : decode cX10_servicer 33 = .ok (.invokestatic 109, 3) := by decide +kernel
theorem dX10_servicer_36 : decode cX10_servicer 36 = .ok (.goto 25, 3) := by decide +kernel
theorem dX10_servicer_39 : decode cX10_servicer 39 = .ok (.iload_n 2, 1) := by decide +kernel
theorem dX10_servicer_40 : decode cX10_servicer 40 = .ok (.iconst 1, 1) := by decide +kernel
theorem dX10_servicer_41 : decode cX10_servicer 41 = .ok (.if_icmp .ne 15, 3) := by decide +kernel
theorem dX10_servicer_44 : decode cX10_servicer 44 = .ok (.aload_n 0, 1) := by decide +kernel
theorem dX10_servicer_45 : decode cX10_servicer 45 = .ok (.getfield 13, 3) := by decide +kernel
theorem dX10_servicer_48 : decode cX10_servicer 48 = .ok (.bipush 6, 2) := by decide +kernel
theorem dX10_servicer_50 : decode cX10_servicer 50 = .ok (.iload_n 1, 1) := by decide +kernel
theorem dX10_servicer_51 : decode cX10_servicer 51 = .ok (.iadd, 1) := by decide +kernel
theorem dX10_servicer_52 : decode cX10_servicer 52 = .ok (.iaload, 1) := by decide +kernel
theorem dX10_servicer_53 : decode cX10_servicer 53 = .ok (.goto 8, 3) := by decide +kernel
theorem dX10_servicer_56 : decode cX10_servicer 56 = .ok (.aload_n 0, 1) := by decide +kernel
theorem dX10_servicer_57 : decode cX10_servicer 57 = .ok (.iload_n 1, 1) := by decide +kernel
theorem dX10_servicer_58 : decode cX10_servicer 58 = .ok (.invokevirtual 182, 3) := by decide +kernel
theorem dX10_servicer_61 : decode cX10_servicer 61 = .ok (.ireturn, 1) := by decide +kernel
theorem dX10_inState_0 : decode cX10_inState 0 = .ok (.iconst 0, 1) := by decide +kernel
theorem dX10_inState_1 : decode cX10_inState 1 = .ok (.istore_n 2, 1) := by decide +kernel
theorem dX10_inState_2 : decode cX10_inState 2 = .ok (.iconst 0, 1) := by decide +kernel
theorem dX10_inState_3 : decode cX10_inState 3 = .ok (.istore_n 3, 1) := by decide +kernel
theorem dX10_inState_4 : decode cX10_inState 4 = .ok (.iload_n 3, 1) := by decide +kernel
theorem dX10_inState_5 : decode cX10_inState 5 = .ok (.aload_n 0, 1) := by decide +kernel
theorem dX10_inState_6 : decode cX10_inState 6 = .ok (.getfield 13, 3) := by decide +kernel
theorem dX10_inState_9 : decode cX10_inState 9 = .ok (.iconst 2, 1) := by decide +kernel
theorem dX10_inState_10 : decode cX10_inState 10 = .ok (.iaload, 1) := by decide +kernel
theorem dX10_inState_11 : decode cX10_inState 11 = .ok (.if_icmp .ge 27, 3) := by decide +kernel
theorem dX10_inState_14 : decode cX10_inState 14 = .ok (.iload_n 2, 1) := by decide +kernel
theorem dX10_inState_15 : decode cX10_inState 15 = .ok (.aload_n 0, 1) := by decide +kernel
theorem dX10_inState_16 : decode cX10_inState 16 = .ok (.iload_n 3, 1) := by decide +kernel
theorem dX10_inState_17 : decode cX10_inState 17 = .ok (.iconst 3, 1) := by decide +kernel
theorem dX10_inState_18 : decode cX10_inState 18 = .ok (.invokevirtual 42, 3) := by decide +kernel
theorem dX10_inState_21 : decode cX10_inState 21 = .ok (.iload_n 1, 1) := by decide +kernel
theorem dX10_inState_22 : decode cX10_inState 22 = .ok (.if_icmp .ne 7, 3) := by decide +kernel
theorem dX10_inState_25 : decode cX10_inState 25 = .ok (.iconst 1, 1) := by decide +kernel
theorem dX10_inState_26 : decode cX10_inState 26 = .ok (.goto 4, 3) := by decide +kernel
theorem dX10_inState_29 : decode cX10_inState 29 = .ok (.iconst 0, 1) := by decide +kernel
theorem dX10_inState_30 : decode cX10_inState 30 = .ok (.iadd, 1) := by decide +kernel
theorem dX10_inState_31 : decode cX10_inState 31 = .ok (.istore_n 2, 1) := by decide +kernel
theorem dX10_inState_32 : decode cX10_inState 32 = .ok (.iinc 3 1, 3) := by decide +kernel
theorem dX10_inState_35 : decode cX10_inState 35 = .ok (.goto (-31), 3) := by decide +kernel
theorem dX10_inState_38 : decode cX10_inState 38 = .ok (.iload_n 2, 1) := by decide +kernel
theorem dX10_inState_39 : decode cX10_inState 39 = .ok (.ireturn, 1) := by decide +kernel
theorem dX10_sumOf_0 : decode cX10_sumOf 0 = .ok (.iconst 0, 1) := by decide +kernel
theorem dX10_sumOf_1 : decode cX10_sumOf 1 = .ok (.istore_n 2, 1) := by decide +kernel
theorem dX10_sumOf_2 : decode cX10_sumOf 2 = .ok (.iconst 0, 1) := by decide +kernel
theorem dX10_sumOf_3 : decode cX10_sumOf 3 = .ok (.istore_n 3, 1) := by decide +kernel
theorem dX10_sumOf_4 : decode cX10_sumOf 4 = .ok (.iload_n 3, 1) := by decide +kernel
theorem dX10_sumOf_5 : decode cX10_sumOf 5 = .ok (.aload_n 0, 1) := by decide +kernel
theorem dX10_sumOf_6 : decode cX10_sumOf 6 = .ok (.getfield 13, 3) := by decide +kernel
theorem dX10_sumOf_9 : decode cX10_sumOf 9 = .ok (.iconst 2, 1) := by decide +kernel
theorem dX10_sumOf_10 : decode cX10_sumOf 10 = .ok (.iaload, 1) := by decide +kernel
theorem dX10_sumOf_11 : decode cX10_sumOf 11 = .ok (.if_icmp .ge 72, 3) := by decide +kernel
theorem dX10_sumOf_14 : decode cX10_sumOf 14 = .ok (.iload_n 2, 1) := by decide +kernel
theorem dX10_sumOf_15 : decode cX10_sumOf 15 = .ok (.iload_n 1, 1) := by decide +kernel
theorem dX10_sumOf_16 : decode cX10_sumOf 16 = .ok (.bipush 12, 2) := by decide +kernel
theorem dX10_sumOf_18 : decode cX10_sumOf 18 = .ok (.if_icmp .ne 13, 3) := by decide +kernel
theorem dX10_sumOf_21 : decode cX10_sumOf 21 = .ok (.aload_n 0, 1) := by decide +kernel
theorem dX10_sumOf_22 : decode cX10_sumOf 22 = .ok (.iload_n 3, 1) := by decide +kernel
theorem dX10_sumOf_23 : decode cX10_sumOf 23 = .ok (.bipush 6, 2) := by decide +kernel
theorem dX10_sumOf_25 : decode cX10_sumOf 25 = .ok (.invokevirtual 42, 3) := by decide +kernel
theorem dX10_sumOf_28 : decode cX10_sumOf 28 = .ok (.goto 47, 3) := by decide +kernel
theorem dX10_sumOf_31 : decode cX10_sumOf 31 = .ok (.iload_n 1, 1) := by decide +kernel
theorem dX10_sumOf_32 : decode cX10_sumOf 32 = .ok (.bipush 15, 2) := by decide +kernel
theorem dX10_sumOf_34 : decode cX10_sumOf 34 = .ok (.if_icmp .ne 23, 3) := by decide +kernel
theorem dX10_sumOf_37 : decode cX10_sumOf 37 = .ok (.aload_n 0, 1) := by decide +kernel
theorem dX10_sumOf_38 : decode cX10_sumOf 38 = .ok (.iload_n 3, 1) := by decide +kernel
theorem dX10_sumOf_39 : decode cX10_sumOf 39 = .ok (.bipush 10, 2) := by decide +kernel
theorem dX10_sumOf_41 : decode cX10_sumOf 41 = .ok (.invokevirtual 42, 3) := by decide +kernel
theorem dX10_sumOf_44 : decode cX10_sumOf 44 = .ok (.bipush (-5), 2) := by decide +kernel
theorem dX10_sumOf_46 : decode cX10_sumOf 46 = .ok (.if_icmp .ne 7, 3) := by decide +kernel
theorem dX10_sumOf_49 : decode cX10_sumOf 49 = .ok (.iconst 0, 1) := by decide +kernel
theorem dX10_sumOf_50 : decode cX10_sumOf 50 = .ok (.goto 25, 3) := by decide +kernel
theorem dX10_sumOf_53 : decode cX10_sumOf 53 = .ok (.iconst 1, 1) := by decide +kernel
theorem dX10_sumOf_54 : decode cX10_sumOf 54 = .ok (.goto 21, 3) := by decide +kernel
theorem dX10_sumOf_57 : decode cX10_sumOf 57 = .ok (.aload_n 0, 1) := by decide +kernel
theorem dX10_sumOf_58 : decode cX10_sumOf 58 = .ok (.iload_n 3, 1) := by decide +kernel
theorem dX10_sumOf_59 : decode cX10_sumOf 59 = .ok (.invokevirtual 114, 3) := by decide +kernel
theorem dX10_sumOf_62 : decode cX10_sumOf 62 = .ok (.ifCond .eq 12, 3) := by decide +kernel
theorem dX10_sumOf_65 : decode cX10_sumOf 65 = .ok (.aload_n 0, 1) := by decide +kernel
theorem dX10_sumOf_66 : decode cX10_sumOf 66 = .ok (.iload_n 3, 1) := by decide +kernel
theorem dX10_sumOf_67 : decode cX10_sumOf 67 = .ok (.iconst 4, 1) := by decide +kernel
theorem dX10_sumOf_68 : decode cX10_sumOf 68 = .ok (.invokevirtual 42, 3) := by decide +kernel
theorem dX10_sumOf_71 : decode cX10_sumOf 71 = .ok (.goto 4, 3) := by decide +kernel
theorem dX10_sumOf_74 : decode cX10_sumOf 74 = .ok (.iconst 0, 1) := by decide +kernel
theorem dX10_sumOf_75 : decode cX10_sumOf 75 = .ok (.iadd, 1) := by decide +kernel
theorem dX10_sumOf_76 : decode cX10_sumOf 76 = .ok (.istore_n 2, 1) := by decide +kernel
theorem dX10_sumOf_77 : decode cX10_sumOf 77 = .ok (.iinc 3 1, 3) := by decide +kernel
theorem dX10_sumOf_80 : decode cX10_sumOf 80 = .ok (.goto (-76), 3) := by decide +kernel
theorem dX10_sumOf_83 : decode cX10_sumOf 83 = .ok (.iload_n 2, 1) := by decide +kernel
theorem dX10_sumOf_84 : decode cX10_sumOf 84 = .ok (.ireturn, 1) := by decide +kernel
theorem dX10_losses_0 : decode cX10_losses 0 = .ok (.iconst 0, 1) := by decide +kernel
theorem dX10_losses_1 : decode cX10_losses 1 = .ok (.istore_n 1, 1) := by decide +kernel
theorem dX10_losses_2 : decode cX10_losses 2 = .ok (.iconst 0, 1) := by decide +kernel
theorem dX10_losses_3 : decode cX10_losses 3 = .ok (.istore_n 2, 1) := by decide +kernel
theorem dX10_losses_4 : decode cX10_losses 4 = .ok (.iload_n 2, 1) := by decide +kernel
theorem dX10_losses_5 : decode cX10_losses 5 = .ok (.aload_n 0, 1) := by decide +kernel
theorem dX10_losses_6 : decode cX10_losses 6 = .ok (.getfield 13, 3) := by decide +kernel
theorem dX10_losses_9 : decode cX10_losses 9 = .ok (.iconst 3, 1) := by decide +kernel
theorem dX10_losses_10 : decode cX10_losses 10 = .ok (.iaload, 1) := by decide +kernel
theorem dX10_losses_11 : decode cX10_losses 11 = .ok (.if_icmp .ge 19, 3) := by decide +kernel
theorem dX10_losses_14 : decode cX10_losses 14 = .ok (.iload_n 1, 1) := by decide +kernel
theorem dX10_losses_15 : decode cX10_losses 15 = .ok (.aload_n 0, 1) := by decide +kernel
theorem dX10_losses_16 : decode cX10_losses 16 = .ok (.iload_n 2, 1) := by decide +kernel
theorem dX10_losses_17 : decode cX10_losses 17 = .ok (.bipush 6, 2) := by decide +kernel
theorem dX10_losses_19 : decode cX10_losses 19 = .ok (.invokevirtual 78, 3) := by decide +kernel
theorem dX10_losses_22 : decode cX10_losses 22 = .ok (.iadd, 1) := by decide +kernel
theorem dX10_losses_23 : decode cX10_losses 23 = .ok (.istore_n 1, 1) := by decide +kernel
theorem dX10_losses_24 : decode cX10_losses 24 = .ok (.iinc 2 1, 3) := by decide +kernel
theorem dX10_losses_27 : decode cX10_losses 27 = .ok (.goto (-23), 3) := by decide +kernel
theorem dX10_losses_30 : decode cX10_losses 30 = .ok (.iload_n 1, 1) := by decide +kernel
theorem dX10_losses_31 : decode cX10_losses 31 = .ok (.ireturn, 1) := by decide +kernel
theorem dX10_count_0 : decode cX10_count 0 = .ok (.aload_n 0, 1) := by decide +kernel
theorem dX10_count_1 : decode cX10_count 1 = .ok (.iconst 0, 1) := by decide +kernel
theorem dX10_count_2 : decode cX10_count 2 = .ok (.putfield 1, 3) := by decide +kernel
theorem dX10_count_5 : decode cX10_count 5 = .ok (.iload_n 1, 1) := by decide +kernel
theorem dX10_count_6 : decode cX10_count 6 = .ok (.tableswitch 162 0 17 #[86, 93, 100, 107, 107, 107, 107, 107, 115, 122, 129, 136, 136, 142, 147, 136, 152, 157], 86) := by decide +kernel
theorem dX10_count_92 : decode cX10_count 92 = .ok (.aload_n 0, 1) := by decide +kernel
theorem dX10_count_93 : decode cX10_count 93 = .ok (.getfield 13, 3) := by decide +kernel
theorem dX10_count_96 : decode cX10_count 96 = .ok (.iconst 0, 1) := by decide +kernel
theorem dX10_count_97 : decode cX10_count 97 = .ok (.iaload, 1) := by decide +kernel
theorem dX10_count_98 : decode cX10_count 98 = .ok (.ireturn, 1) := by decide +kernel
theorem dX10_count_99 : decode cX10_count 99 = .ok (.aload_n 0, 1) := by decide +kernel
theorem dX10_count_100 : decode cX10_count 100 = .ok (.getfield 13, 3) := by decide +kernel
theorem dX10_count_103 : decode cX10_count 103 = .ok (.iconst 1, 1) := by decide +kernel
theorem dX10_count_104 : decode cX10_count 104 = .ok (.iaload, 1) := by decide +kernel
theorem dX10_count_105 : decode cX10_count 105 = .ok (.ireturn, 1) := by decide +kernel
theorem dX10_count_106 : decode cX10_count 106 = .ok (.aload_n 0, 1) := by decide +kernel
theorem dX10_count_107 : decode cX10_count 107 = .ok (.getfield 13, 3) := by decide +kernel
theorem dX10_count_110 : decode cX10_count 110 = .ok (.iconst 2, 1) := by decide +kernel
theorem dX10_count_111 : decode cX10_count 111 = .ok (.iaload, 1) := by decide +kernel
theorem dX10_count_112 : decode cX10_count 112 = .ok (.ireturn, 1) := by decide +kernel
theorem dX10_count_113 : decode cX10_count 113 = .ok (.aload_n 0, 1) := by decide +kernel
theorem dX10_count_114 : decode cX10_count 114 = .ok (.iload_n 1, 1) := by decide +kernel
theorem dX10_count_115 : decode cX10_count 115 = .ok (.iconst 3, 1) := by decide +kernel
theorem dX10_count_116 : decode cX10_count 116 = .ok (.isub, 1) := by decide +kernel
theorem dX10_count_117 : decode cX10_count 117 = .ok (.invokevirtual 185, 3) := by decide +kernel
theorem dX10_count_120 : decode cX10_count 120 = .ok (.ireturn, 1) := by decide +kernel
theorem dX10_count_121 : decode cX10_count 121 = .ok (.aload_n 0, 1) := by decide +kernel
theorem dX10_count_122 : decode cX10_count 122 = .ok (.getfield 13, 3) := by decide +kernel
theorem dX10_count_125 : decode cX10_count 125 = .ok (.iconst 3, 1) := by decide +kernel
theorem dX10_count_126 : decode cX10_count 126 = .ok (.iaload, 1) := by decide +kernel
theorem dX10_count_127 : decode cX10_count 127 = .ok (.ireturn, 1) := by decide +kernel
theorem dX10_count_128 : decode cX10_count 128 = .ok (.aload_n 0, 1) := by decide +kernel
theorem dX10_count_129 : decode cX10_count 129 = .ok (.getfield 13, 3) := by decide +kernel
theorem dX10_count_132 : decode cX10_count 132 = .ok (.iconst 4, 1) := by decide +kernel
theorem dX10_count_133 : decode cX10_count 133 = .ok (.iaload, 1) := by decide +kernel
theorem dX10_count_134 : decode cX10_count 134 = .ok (.ireturn, 1) := by decide +kernel
theorem dX10_count_135 : decode cX10_count 135 = .ok (.aload_n 0, 1) := by decide +kernel
theorem dX10_count_136 : decode cX10_count 136 = .ok (.getfield 13, 3) := by decide +kernel
theorem dX10_count_139 : decode cX10_count 139 = .ok (.iconst 5, 1) := by decide +kernel
theorem dX10_count_140 : decode cX10_count 140 = .ok (.iaload, 1) := by decide +kernel
theorem dX10_count_141 : decode cX10_count 141 = .ok (.ireturn, 1) := by decide +kernel
theorem dX10_count_142 : decode cX10_count 142 = .ok (.aload_n 0, 1) := by decide +kernel
theorem dX10_count_143 : decode cX10_count 143 = .ok (.iload_n 1, 1) := by decide +kernel
theorem dX10_count_144 : decode cX10_count 144 = .ok (.invokevirtual 188, 3) := by decide +kernel
theorem dX10_count_147 : decode cX10_count 147 = .ok (.ireturn, 1) := by decide +kernel
theorem dX10_count_148 : decode cX10_count 148 = .ok (.aload_n 0, 1) := by decide +kernel
theorem dX10_count_149 : decode cX10_count 149 = .ok (.invokevirtual 191, 3) := by decide +kernel
theorem dX10_count_152 : decode cX10_count 152 = .ok (.ireturn, 1) := by decide +kernel
theorem dX10_count_153 : decode cX10_count 153 = .ok (.aload_n 0, 1) := by decide +kernel
theorem dX10_count_154 : decode cX10_count 154 = .ok (.invokevirtual 147, 3) := by decide +kernel
theorem dX10_count_157 : decode cX10_count 157 = .ok (.ireturn, 1) := by decide +kernel
theorem dX10_count_158 : decode cX10_count 158 = .ok (.aload_n 0, 1) := by decide +kernel
theorem dX10_count_159 : decode cX10_count 159 = .ok (.getfield 53, 3) := by decide +kernel
theorem dX10_count_162 : decode cX10_count 162 = .ok (.ireturn, 1) := by decide +kernel
theorem dX10_count_163 : decode cX10_count 163 = .ok (.aload_n 0, 1) := by decide +kernel
theorem dX10_count_164 : decode cX10_count 164 = .ok (.getfield 151, 3) := by decide +kernel
theorem dX10_count_167 : decode cX10_count 167 = .ok (.ireturn, 1) := by decide +kernel
theorem dX10_count_168 : decode cX10_count 168 = .ok (.bipush (-2), 2) := by decide +kernel
theorem dX10_count_170 : decode cX10_count 170 = .ok (.ireturn, 1) := by decide +kernel
end
section
theorem dL_law_0 : decode cL_law 0 = .ok (.new 7, 3) := by decide +kernel
theorem dL_law_3 : decode cL_law 3 = .ok (.dup, 1) := by decide +kernel
theorem dL_law_4 : decode cL_law 4 = .ok (.invokespecial 9, 3) := by decide +kernel
theorem dL_law_7 : decode cL_law 7 = .ok (.astore_n 1, 1) := by decide +kernel
theorem dL_law_8 : decode cL_law 8 = .ok (.new 10, 3) := by decide +kernel
theorem dL_law_11 : decode cL_law 11 = .ok (.dup, 1) := by decide +kernel
theorem dL_law_12 : decode cL_law 12 = .ok (.invokespecial 12, 3) := by decide +kernel
theorem dL_law_15 : decode cL_law 15 = .ok (.astore_n 2, 1) := by decide +kernel
theorem dL_law_16 : decode cL_law 16 = .ok (.iconst 0, 1) := by decide +kernel
theorem dL_law_17 : decode cL_law 17 = .ok (.istore_n 3, 1) := by decide +kernel
theorem dL_law_18 : decode cL_law 18 = .ok (.iload_n 3, 1) := by decide +kernel
theorem dL_law_19 : decode cL_law 19 = .ok (.aload_n 0, 1) := by decide +kernel
theorem dL_law_20 : decode cL_law 20 = .ok (.arraylength, 1) := by decide +kernel
theorem dL_law_21 : decode cL_law 21 = .ok (.iconst 5, 1) := by decide +kernel
theorem dL_law_22 : decode cL_law 22 = .ok (.isub, 1) := by decide +kernel
theorem dL_law_23 : decode cL_law 23 = .ok (.if_icmp .gt 854, 3) := by decide +kernel
theorem dL_law_26 : decode cL_law 26 = .ok (.aload_n 0, 1) := by decide +kernel
theorem dL_law_27 : decode cL_law 27 = .ok (.iload_n 3, 1) := by decide +kernel
theorem dL_law_28 : decode cL_law 28 = .ok (.iaload, 1) := by decide +kernel
theorem dL_law_29 : decode cL_law 29 = .ok (.bipush 31, 2) := by decide +kernel
theorem dL_law_31 : decode cL_law 31 = .ok (.iand, 1) := by decide +kernel
theorem dL_law_32 : decode cL_law 32 = .ok (.tableswitch 839 0 24 #[116, 139, 172, 195, 238, 307, 330, 363, 396, 429, 462, 505, 528, 553, 566, 579, 592, 605, 618, 651, 684, 717, 760, 783, 816], 116) := by decide +kernel
theorem dL_law_148 : decode cL_law 148 = .ok (.aload_n 1, 1) := by decide +kernel
theorem dL_law_149 : decode cL_law 149 = .ok (.aload_n 0, 1) := by decide +kernel
theorem dL_law_150 : decode cL_law 150 = .ok (.iload_n 3, 1) := by decide +kernel
theorem dL_law_151 : decode cL_law 151 = .ok (.iconst 1, 1) := by decide +kernel
theorem dL_law_152 : decode cL_law 152 = .ok (.iadd, 1) := by decide +kernel
theorem dL_law_153 : decode cL_law 153 = .ok (.iaload, 1) := by decide +kernel
theorem dL_law_154 : decode cL_law 154 = .ok (.invokevirtual 13, 3) := by decide +kernel
theorem dL_law_157 : decode cL_law 157 = .ok (.aload_n 2, 1) := by decide +kernel
theorem dL_law_158 : decode cL_law 158 = .ok (.aload_n 0, 1) := by decide +kernel
theorem dL_law_159 : decode cL_law 159 = .ok (.iload_n 3, 1) := by decide +kernel
theorem dL_law_160 : decode cL_law 160 = .ok (.iconst 1, 1) := by decide +kernel
theorem dL_law_161 : decode cL_law 161 = .ok (.iadd, 1) := by decide +kernel
theorem dL_law_162 : decode cL_law 162 = .ok (.iaload, 1) := by decide +kernel
theorem dL_law_163 : decode cL_law 163 = .ok (.invokevirtual 17, 3) := by decide +kernel
theorem dL_law_166 : decode cL_law 166 = .ok (.if_icmp .eq 705, 3) := by decide +kernel
theorem dL_law_169 : decode cL_law 169 = .ok (.iconst 0, 1) := by decide +kernel
theorem dL_law_170 : decode cL_law 170 = .ok (.ireturn, 1) := by decide +kernel
theorem dL_law_171 : decode cL_law 171 = .ok (.aload_n 1, 1) := by decide +kernel
theorem dL_law_172 : decode cL_law 172 = .ok (.aload_n 0, 1) := by decide +kernel
theorem dL_law_173 : decode cL_law 173 = .ok (.iload_n 3, 1) := by decide +kernel
theorem dL_law_174 : decode cL_law 174 = .ok (.iconst 1, 1) := by decide +kernel
theorem dL_law_175 : decode cL_law 175 = .ok (.iadd, 1) := by decide +kernel
theorem dL_law_176 : decode cL_law 176 = .ok (.iaload, 1) := by decide +kernel
theorem dL_law_177 : decode cL_law 177 = .ok (.aload_n 0, 1) := by decide +kernel
theorem dL_law_178 : decode cL_law 178 = .ok (.iload_n 3, 1) := by decide +kernel
theorem dL_law_179 : decode cL_law 179 = .ok (.iconst 2, 1) := by decide +kernel
theorem dL_law_180 : decode cL_law 180 = .ok (.iadd, 1) := by decide +kernel
theorem dL_law_181 : decode cL_law 181 = .ok (.iaload, 1) := by decide +kernel
theorem dL_law_182 : decode cL_law 182 = .ok (.invokevirtual 18, 3) := by decide +kernel
theorem dL_law_185 : decode cL_law 185 = .ok (.aload_n 2, 1) := by decide +kernel
theorem dL_law_186 : decode cL_law 186 = .ok (.aload_n 0, 1) := by decide +kernel
theorem dL_law_187 : decode cL_law 187 = .ok (.iload_n 3, 1) := by decide +kernel
theorem dL_law_188 : decode cL_law 188 = .ok (.iconst 1, 1) := by decide +kernel
theorem dL_law_189 : decode cL_law 189 = .ok (.iadd, 1) := by decide +kernel
theorem dL_law_190 : decode cL_law 190 = .ok (.iaload, 1) := by decide +kernel
theorem dL_law_191 : decode cL_law 191 = .ok (.aload_n 0, 1) := by decide +kernel
theorem dL_law_192 : decode cL_law 192 = .ok (.iload_n 3, 1) := by decide +kernel
theorem dL_law_193 : decode cL_law 193 = .ok (.iconst 2, 1) := by decide +kernel
theorem dL_law_194 : decode cL_law 194 = .ok (.iadd, 1) := by decide +kernel
theorem dL_law_195 : decode cL_law 195 = .ok (.iaload, 1) := by decide +kernel
theorem dL_law_196 : decode cL_law 196 = .ok (.invokevirtual 22, 3) := by decide +kernel
theorem dL_law_199 : decode cL_law 199 = .ok (.if_icmp .eq 672, 3) := by decide +kernel
theorem dL_law_202 : decode cL_law 202 = .ok (.iconst 0, 1) := by decide +kernel
theorem dL_law_203 : decode cL_law 203 = .ok (.ireturn, 1) := by decide +kernel
theorem dL_law_204 : decode cL_law 204 = .ok (.aload_n 1, 1) := by decide +kernel
theorem dL_law_205 : decode cL_law 205 = .ok (.aload_n 0, 1) := by decide +kernel
theorem dL_law_206 : decode cL_law 206 = .ok (.iload_n 3, 1) := by decide +kernel
theorem dL_law_207 : decode cL_law 207 = .ok (.iconst 1, 1) := by decide +kernel
theorem dL_law_208 : decode cL_law 208 = .ok (.iadd, 1) := by decide +kernel
theorem dL_law_209 : decode cL_law 209 = .ok (.iaload, 1) := by decide +kernel
theorem dL_law_210 : decode cL_law 210 = .ok (.invokevirtual 23, 3) := by decide +kernel
theorem dL_law_213 : decode cL_law 213 = .ok (.aload_n 2, 1) := by decide +kernel
theorem dL_law_214 : decode cL_law 214 = .ok (.aload_n 0, 1) := by decide +kernel
theorem dL_law_215 : decode cL_law 215 = .ok (.iload_n 3, 1) := by decide +kernel
theorem dL_law_216 : decode cL_law 216 = .ok (.iconst 1, 1) := by decide +kernel
theorem dL_law_217 : decode cL_law 217 = .ok (.iadd, 1) := by decide +kernel
theorem dL_law_218 : decode cL_law 218 = .ok (.iaload, 1) := by decide +kernel
theorem dL_law_219 : decode cL_law 219 = .ok (.invokevirtual 26, 3) := by decide +kernel
theorem dL_law_222 : decode cL_law 222 = .ok (.if_icmp .eq 649, 3) := by decide +kernel
theorem dL_law_225 : decode cL_law 225 = .ok (.iconst 0, 1) := by decide +kernel
theorem dL_law_226 : decode cL_law 226 = .ok (.ireturn, 1) := by decide +kernel
theorem dL_law_227 : decode cL_law 227 = .ok (.aload_n 1, 1) := by decide +kernel
theorem dL_law_228 : decode cL_law 228 = .ok (.aload_n 0, 1) := by decide +kernel
theorem dL_law_229 : decode cL_law 229 = .ok (.iload_n 3, 1) := by decide +kernel
theorem dL_law_230 : decode cL_law 230 = .ok (.iconst 1, 1) := by decide +kernel
theorem dL_law_231 : decode cL_law 231 = .ok (.iadd, 1) := by decide +kernel
theorem dL_law_232 : decode cL_law 232 = .ok (.iaload, 1) := by decide +kernel
theorem dL_law_233 : decode cL_law 233 = .ok (.aload_n 0, 1) := by decide +kernel
theorem dL_law_234 : decode cL_law 234 = .ok (.iload_n 3, 1) := by decide +kernel
theorem dL_law_235 : decode cL_law 235 = .ok (.iconst 2, 1) := by decide +kernel
theorem dL_law_236 : decode cL_law 236 = .ok (.iadd, 1) := by decide +kernel
theorem dL_law_237 : decode cL_law 237 = .ok (.iaload, 1) := by decide +kernel
theorem dL_law_238 : decode cL_law 238 = .ok (.aload_n 0, 1) := by decide +kernel
theorem dL_law_239 : decode cL_law 239 = .ok (.iload_n 3, 1) := by decide +kernel
theorem dL_law_240 : decode cL_law 240 = .ok (.iconst 3, 1) := by decide +kernel
theorem dL_law_241 : decode cL_law 241 = .ok (.iadd, 1) := by decide +kernel
theorem dL_law_242 : decode cL_law 242 = .ok (.iaload, 1) := by decide +kernel
theorem dL_law_243 : decode cL_law 243 = .ok (.invokevirtual 27, 3) := by decide +kernel
theorem dL_law_246 : decode cL_law 246 = .ok (.aload_n 2, 1) := by decide +kernel
theorem dL_law_247 : decode cL_law 247 = .ok (.aload_n 0, 1) := by decide +kernel
theorem dL_law_248 : decode cL_law 248 = .ok (.iload_n 3, 1) := by decide +kernel
theorem dL_law_249 : decode cL_law 249 = .ok (.iconst 1, 1) := by decide +kernel
theorem dL_law_250 : decode cL_law 250 = .ok (.iadd, 1) := by decide +kernel
theorem dL_law_251 : decode cL_law 251 = .ok (.iaload, 1) := by decide +kernel
theorem dL_law_252 : decode cL_law 252 = .ok (.aload_n 0, 1) := by decide +kernel
theorem dL_law_253 : decode cL_law 253 = .ok (.iload_n 3, 1) := by decide +kernel
theorem dL_law_254 : decode cL_law 254 = .ok (.iconst 2, 1) := by decide +kernel
theorem dL_law_255 : decode cL_law 255 = .ok (.iadd, 1) := by decide +kernel
theorem dL_law_256 : decode cL_law 256 = .ok (.iaload, 1) := by decide +kernel
theorem dL_law_257 : decode cL_law 257 = .ok (.aload_n 0, 1) := by decide +kernel
theorem dL_law_258 : decode cL_law 258 = .ok (.iload_n 3, 1) := by decide +kernel
theorem dL_law_259 : decode cL_law 259 = .ok (.iconst 3, 1) := by decide +kernel
theorem dL_law_260 : decode cL_law 260 = .ok (.iadd, 1) := by decide +kernel
theorem dL_law_261 : decode cL_law 261 = .ok (.iaload, 1) := by decide +kernel
theorem dL_law_262 : decode cL_law 262 = .ok (.invokevirtual 31, 3) := by decide +kernel
theorem dL_law_265 : decode cL_law 265 = .ok (.if_icmp .eq 606, 3) := by decide +kernel
theorem dL_law_268 : decode cL_law 268 = .ok (.iconst 0, 1) := by decide +kernel
theorem dL_law_269 : decode cL_law 269 = .ok (.ireturn, 1) := by decide +kernel
theorem dL_law_270 : decode cL_law 270 = .ok (.aload_n 1, 1) := by decide +kernel
theorem dL_law_271 : decode cL_law 271 = .ok (.aload_n 0, 1) := by decide +kernel
theorem dL_law_272 : decode cL_law 272 = .ok (.iload_n 3, 1) := by decide +kernel
theorem dL_law_273 : decode cL_law 273 = .ok (.iconst 1, 1) := by decide +kernel
theorem dL_law_274 : decode cL_law 274 = .ok (.iadd, 1) := by decide +kernel
theorem dL_law_275 : decode cL_law 275 = .ok (.iaload, 1) := by decide +kernel
theorem dL_law_276 : decode cL_law 276 = .ok (.aload_n 0, 1) := by decide +kernel
theorem dL_law_277 : decode cL_law 277 = .ok (.iload_n 3, 1) := by decide +kernel
theorem dL_law_278 : decode cL_law 278 = .ok (.iconst 2, 1) := by decide +kernel
theorem dL_law_279 : decode cL_law 279 = .ok (.iadd, 1) := by decide +kernel
theorem dL_law_280 : decode cL_law 280 = .ok (.iaload, 1) := by decide +kernel
theorem dL_law_281 : decode cL_law 281 = .ok (.aload_n 0, 1) := by decide +kernel
theorem dL_law_282 : decode cL_law 282 = .ok (.iload_n 3, 1) := by decide +kernel
theorem dL_law_283 : decode cL_law 283 = .ok (.iconst 3, 1) := by decide +kernel
theorem dL_law_284 : decode cL_law 284 = .ok (.iadd, 1) := by decide +kernel
theorem dL_law_285 : decode cL_law 285 = .ok (.iaload, 1) := by decide +kernel
theorem dL_law_286 : decode cL_law 286 = .ok (.ifCond .eq 7, 3) := by decide +kernel
theorem dL_law_289 : decode cL_law 289 = .ok (.iconst 1, 1) := by decide +kernel
theorem dL_law_290 : decode cL_law 290 = .ok (.goto 4, 3) := by decide +kernel
theorem dL_law_293 : decode cL_law 293 = .ok (.iconst 0, 1) := by decide +kernel
theorem dL_law_294 : decode cL_law 294 = .ok (.aload_n 0, 1) := by decide +kernel
theorem dL_law_295 : decode cL_law 295 = .ok (.iload_n 3, 1) := by decide +kernel
theorem dL_law_296 : decode cL_law 296 = .ok (.iconst 4, 1) := by decide +kernel
theorem dL_law_297 : decode cL_law 297 = .ok (.iadd, 1) := by decide +kernel
theorem dL_law_298 : decode cL_law 298 = .ok (.iaload, 1) := by decide +kernel
theorem dL_law_299 : decode cL_law 299 = .ok (.invokevirtual 32, 3) := by decide +kernel
theorem dL_law_302 : decode cL_law 302 = .ok (.aload_n 2, 1) := by decide +kernel
theorem dL_law_303 : decode cL_law 303 = .ok (.aload_n 0, 1) := by decide +kernel
theorem dL_law_304 : decode cL_law 304 = .ok (.iload_n 3, 1) := by decide +kernel
theorem dL_law_305 : decode cL_law 305 = .ok (.iconst 1, 1) := by decide +kernel
theorem dL_law_306 : decode cL_law 306 = .ok (.iadd, 1) := by decide +kernel
theorem dL_law_307 : decode cL_law 307 = .ok (.iaload, 1) := by decide +kernel
theorem dL_law_308 : decode cL_law 308 = .ok (.aload_n 0, 1) := by decide +kernel
theorem dL_law_309 : decode cL_law 309 = .ok (.iload_n 3, 1) := by decide +kernel
theorem dL_law_310 : decode cL_law 310 = .ok (.iconst 2, 1) := by decide +kernel
theorem dL_law_311 : decode cL_law 311 = .ok (.iadd, 1) := by decide +kernel
theorem dL_law_312 : decode cL_law 312 = .ok (.iaload, 1) := by decide +kernel
theorem dL_law_313 : decode cL_law 313 = .ok (.aload_n 0, 1) := by decide +kernel
theorem dL_law_314 : decode cL_law 314 = .ok (.iload_n 3, 1) := by decide +kernel
theorem dL_law_315 : decode cL_law 315 = .ok (.iconst 3, 1) := by decide +kernel
theorem dL_law_316 : decode cL_law 316 = .ok (.iadd, 1) := by decide +kernel
theorem dL_law_317 : decode cL_law 317 = .ok (.iaload, 1) := by decide +kernel
theorem dL_law_318 : decode cL_law 318 = .ok (.ifCond .eq 7, 3) := by decide +kernel
theorem dL_law_321 : decode cL_law 321 = .ok (.iconst 1, 1) := by decide +kernel
theorem dL_law_322 : decode cL_law 322 = .ok (.goto 4, 3) := by decide +kernel
theorem dL_law_325 : decode cL_law 325 = .ok (.iconst 0, 1) := by decide +kernel
theorem dL_law_326 : decode cL_law 326 = .ok (.aload_n 0, 1) := by decide +kernel
theorem dL_law_327 : decode cL_law 327 = .ok (.iload_n 3, 1) := by decide +kernel
theorem dL_law_328 : decode cL_law 328 = .ok (.iconst 4, 1) := by decide +kernel
theorem dL_law_329 : decode cL_law 329 = .ok (.iadd, 1) := by decide +kernel
theorem dL_law_330 : decode cL_law 330 = .ok (.iaload, 1) := by decide +kernel
theorem dL_law_331 : decode cL_law 331 = .ok (.invokevirtual 36, 3) := by decide +kernel
theorem dL_law_334 : decode cL_law 334 = .ok (.if_icmp .eq 537, 3) := by decide +kernel
theorem dL_law_337 : decode cL_law 337 = .ok (.iconst 0, 1) := by decide +kernel
theorem dL_law_338 : decode cL_law 338 = .ok (.ireturn, 1) := by decide +kernel
theorem dL_law_339 : decode cL_law 339 = .ok (.aload_n 1, 1) := by decide +kernel
theorem dL_law_340 : decode cL_law 340 = .ok (.aload_n 0, 1) := by decide +kernel
theorem dL_law_341 : decode cL_law 341 = .ok (.iload_n 3, 1) := by decide +kernel
theorem dL_law_342 : decode cL_law 342 = .ok (.iconst 1, 1) := by decide +kernel
theorem dL_law_343 : decode cL_law 343 = .ok (.iadd, 1) := by decide +kernel
theorem dL_law_344 : decode cL_law 344 = .ok (.iaload, 1) := by decide +kernel
theorem dL_law_345 : decode cL_law 345 = .ok (.invokevirtual 37, 3) := by decide +kernel
theorem dL_law_348 : decode cL_law 348 = .ok (.aload_n 2, 1) := by decide +kernel
theorem dL_law_349 : decode cL_law 349 = .ok (.aload_n 0, 1) := by decide +kernel
theorem dL_law_350 : decode cL_law 350 = .ok (.iload_n 3, 1) := by decide +kernel
theorem dL_law_351 : decode cL_law 351 = .ok (.iconst 1, 1) := by decide +kernel
theorem dL_law_352 : decode cL_law 352 = .ok (.iadd, 1) := by decide +kernel
theorem dL_law_353 : decode cL_law 353 = .ok (.iaload, 1) := by decide +kernel
theorem dL_law_354 : decode cL_law 354 = .ok (.invokevirtual 40, 3) := by decide +kernel
theorem dL_law_357 : decode cL_law 357 = .ok (.if_icmp .eq 514, 3) := by decide +kernel
theorem dL_law_360 : decode cL_law 360 = .ok (.iconst 0, 1) := by decide +kernel
theorem dL_law_361 : decode cL_law 361 = .ok (.ireturn, 1) := by decide +kernel
theorem dL_law_362 : decode cL_law 362 = .ok (.aload_n 1, 1) := by decide +kernel
theorem dL_law_363 : decode cL_law 363 = .ok (.aload_n 0, 1) := by decide +kernel
theorem dL_law_364 : decode cL_law 364 = .ok (.iload_n 3, 1) := by decide +kernel
theorem dL_law_365 : decode cL_law 365 = .ok (.iconst 1, 1) := by decide +kernel
theorem dL_law_366 : decode cL_law 366 = .ok (.iadd, 1) := by decide +kernel
theorem dL_law_367 : decode cL_law 367 = .ok (.iaload, 1) := by decide +kernel
theorem dL_law_368 : decode cL_law 368 = .ok (.aload_n 0, 1) := by decide +kernel
theorem dL_law_369 : decode cL_law 369 = .ok (.iload_n 3, 1) := by decide +kernel
theorem dL_law_370 : decode cL_law 370 = .ok (.iconst 2, 1) := by decide +kernel
theorem dL_law_371 : decode cL_law 371 = .ok (.iadd, 1) := by decide +kernel
theorem dL_law_372 : decode cL_law 372 = .ok (.iaload, 1) := by decide +kernel
theorem dL_law_373 : decode cL_law 373 = .ok (.invokevirtual 41, 3) := by decide +kernel
theorem dL_law_376 : decode cL_law 376 = .ok (.aload_n 2, 1) := by decide +kernel
theorem dL_law_377 : decode cL_law 377 = .ok (.aload_n 0, 1) := by decide +kernel
theorem dL_law_378 : decode cL_law 378 = .ok (.iload_n 3, 1) := by decide +kernel
theorem dL_law_379 : decode cL_law 379 = .ok (.iconst 1, 1) := by decide +kernel
theorem dL_law_380 : decode cL_law 380 = .ok (.iadd, 1) := by decide +kernel
theorem dL_law_381 : decode cL_law 381 = .ok (.iaload, 1) := by decide +kernel
theorem dL_law_382 : decode cL_law 382 = .ok (.aload_n 0, 1) := by decide +kernel
theorem dL_law_383 : decode cL_law 383 = .ok (.iload_n 3, 1) := by decide +kernel
theorem dL_law_384 : decode cL_law 384 = .ok (.iconst 2, 1) := by decide +kernel
theorem dL_law_385 : decode cL_law 385 = .ok (.iadd, 1) := by decide +kernel
theorem dL_law_386 : decode cL_law 386 = .ok (.iaload, 1) := by decide +kernel
theorem dL_law_387 : decode cL_law 387 = .ok (.invokevirtual 44, 3) := by decide +kernel
theorem dL_law_390 : decode cL_law 390 = .ok (.if_icmp .eq 481, 3) := by decide +kernel
theorem dL_law_393 : decode cL_law 393 = .ok (.iconst 0, 1) := by decide +kernel
theorem dL_law_394 : decode cL_law 394 = .ok (.ireturn, 1) := by decide +kernel
theorem dL_law_395 : decode cL_law 395 = .ok (.aload_n 1, 1) := by decide +kernel
theorem dL_law_396 : decode cL_law 396 = .ok (.aload_n 0, 1) := by decide +kernel
theorem dL_law_397 : decode cL_law 397 = .ok (.iload_n 3, 1) := by decide +kernel
theorem dL_law_398 : decode cL_law 398 = .ok (.iconst 1, 1) := by decide +kernel
theorem dL_law_399 : decode cL_law 399 = .ok (.iadd, 1) := by decide +kernel
theorem dL_law_400 : decode cL_law 400 = .ok (.iaload, 1) := by decide +kernel
theorem dL_law_401 : decode cL_law 401 = .ok (.aload_n 0, 1) := by decide +kernel
theorem dL_law_402 : decode cL_law 402 = .ok (.iload_n 3, 1) := by decide +kernel
theorem dL_law_403 : decode cL_law 403 = .ok (.iconst 2, 1) := by decide +kernel
theorem dL_law_404 : decode cL_law 404 = .ok (.iadd, 1) := by decide +kernel
theorem dL_law_405 : decode cL_law 405 = .ok (.iaload, 1) := by decide +kernel
theorem dL_law_406 : decode cL_law 406 = .ok (.invokevirtual 45, 3) := by decide +kernel
theorem dL_law_409 : decode cL_law 409 = .ok (.aload_n 2, 1) := by decide +kernel
theorem dL_law_410 : decode cL_law 410 = .ok (.aload_n 0, 1) := by decide +kernel
theorem dL_law_411 : decode cL_law 411 = .ok (.iload_n 3, 1) := by decide +kernel
theorem dL_law_412 : decode cL_law 412 = .ok (.iconst 1, 1) := by decide +kernel
theorem dL_law_413 : decode cL_law 413 = .ok (.iadd, 1) := by decide +kernel
theorem dL_law_414 : decode cL_law 414 = .ok (.iaload, 1) := by decide +kernel
theorem dL_law_415 : decode cL_law 415 = .ok (.aload_n 0, 1) := by decide +kernel
theorem dL_law_416 : decode cL_law 416 = .ok (.iload_n 3, 1) := by decide +kernel
theorem dL_law_417 : decode cL_law 417 = .ok (.iconst 2, 1) := by decide +kernel
theorem dL_law_418 : decode cL_law 418 = .ok (.iadd, 1) := by decide +kernel
theorem dL_law_419 : decode cL_law 419 = .ok (.iaload, 1) := by decide +kernel
theorem dL_law_420 : decode cL_law 420 = .ok (.invokevirtual 48, 3) := by decide +kernel
theorem dL_law_423 : decode cL_law 423 = .ok (.if_icmp .eq 448, 3) := by decide +kernel
theorem dL_law_426 : decode cL_law 426 = .ok (.iconst 0, 1) := by decide +kernel
theorem dL_law_427 : decode cL_law 427 = .ok (.ireturn, 1) := by decide +kernel
theorem dL_law_428 : decode cL_law 428 = .ok (.aload_n 1, 1) := by decide +kernel
theorem dL_law_429 : decode cL_law 429 = .ok (.aload_n 0, 1) := by decide +kernel
theorem dL_law_430 : decode cL_law 430 = .ok (.iload_n 3, 1) := by decide +kernel
theorem dL_law_431 : decode cL_law 431 = .ok (.iconst 1, 1) := by decide +kernel
theorem dL_law_432 : decode cL_law 432 = .ok (.iadd, 1) := by decide +kernel
theorem dL_law_433 : decode cL_law 433 = .ok (.iaload, 1) := by decide +kernel
theorem dL_law_434 : decode cL_law 434 = .ok (.aload_n 0, 1) := by decide +kernel
theorem dL_law_435 : decode cL_law 435 = .ok (.iload_n 3, 1) := by decide +kernel
theorem dL_law_436 : decode cL_law 436 = .ok (.iconst 2, 1) := by decide +kernel
theorem dL_law_437 : decode cL_law 437 = .ok (.iadd, 1) := by decide +kernel
theorem dL_law_438 : decode cL_law 438 = .ok (.iaload, 1) := by decide +kernel
theorem dL_law_439 : decode cL_law 439 = .ok (.invokevirtual 49, 3) := by decide +kernel
theorem dL_law_442 : decode cL_law 442 = .ok (.aload_n 2, 1) := by decide +kernel
theorem dL_law_443 : decode cL_law 443 = .ok (.aload_n 0, 1) := by decide +kernel
theorem dL_law_444 : decode cL_law 444 = .ok (.iload_n 3, 1) := by decide +kernel
theorem dL_law_445 : decode cL_law 445 = .ok (.iconst 1, 1) := by decide +kernel
theorem dL_law_446 : decode cL_law 446 = .ok (.iadd, 1) := by decide +kernel
theorem dL_law_447 : decode cL_law 447 = .ok (.iaload, 1) := by decide +kernel
theorem dL_law_448 : decode cL_law 448 = .ok (.aload_n 0, 1) := by decide +kernel
theorem dL_law_449 : decode cL_law 449 = .ok (.iload_n 3, 1) := by decide +kernel
theorem dL_law_450 : decode cL_law 450 = .ok (.iconst 2, 1) := by decide +kernel
theorem dL_law_451 : decode cL_law 451 = .ok (.iadd, 1) := by decide +kernel
theorem dL_law_452 : decode cL_law 452 = .ok (.iaload, 1) := by decide +kernel
theorem dL_law_453 : decode cL_law 453 = .ok (.invokevirtual 52, 3) := by decide +kernel
theorem dL_law_456 : decode cL_law 456 = .ok (.if_icmp .eq 415, 3) := by decide +kernel
theorem dL_law_459 : decode cL_law 459 = .ok (.iconst 0, 1) := by decide +kernel
theorem dL_law_460 : decode cL_law 460 = .ok (.ireturn, 1) := by decide +kernel
theorem dL_law_461 : decode cL_law 461 = .ok (.aload_n 1, 1) := by decide +kernel
theorem dL_law_462 : decode cL_law 462 = .ok (.aload_n 0, 1) := by decide +kernel
theorem dL_law_463 : decode cL_law 463 = .ok (.iload_n 3, 1) := by decide +kernel
theorem dL_law_464 : decode cL_law 464 = .ok (.iconst 1, 1) := by decide +kernel
theorem dL_law_465 : decode cL_law 465 = .ok (.iadd, 1) := by decide +kernel
theorem dL_law_466 : decode cL_law 466 = .ok (.iaload, 1) := by decide +kernel
theorem dL_law_467 : decode cL_law 467 = .ok (.aload_n 0, 1) := by decide +kernel
theorem dL_law_468 : decode cL_law 468 = .ok (.iload_n 3, 1) := by decide +kernel
theorem dL_law_469 : decode cL_law 469 = .ok (.iconst 2, 1) := by decide +kernel
theorem dL_law_470 : decode cL_law 470 = .ok (.iadd, 1) := by decide +kernel
theorem dL_law_471 : decode cL_law 471 = .ok (.iaload, 1) := by decide +kernel
theorem dL_law_472 : decode cL_law 472 = .ok (.invokevirtual 53, 3) := by decide +kernel
theorem dL_law_475 : decode cL_law 475 = .ok (.aload_n 2, 1) := by decide +kernel
theorem dL_law_476 : decode cL_law 476 = .ok (.aload_n 0, 1) := by decide +kernel
theorem dL_law_477 : decode cL_law 477 = .ok (.iload_n 3, 1) := by decide +kernel
theorem dL_law_478 : decode cL_law 478 = .ok (.iconst 1, 1) := by decide +kernel
theorem dL_law_479 : decode cL_law 479 = .ok (.iadd, 1) := by decide +kernel
theorem dL_law_480 : decode cL_law 480 = .ok (.iaload, 1) := by decide +kernel
theorem dL_law_481 : decode cL_law 481 = .ok (.aload_n 0, 1) := by decide +kernel
theorem dL_law_482 : decode cL_law 482 = .ok (.iload_n 3, 1) := by decide +kernel
theorem dL_law_483 : decode cL_law 483 = .ok (.iconst 2, 1) := by decide +kernel
theorem dL_law_484 : decode cL_law 484 = .ok (.iadd, 1) := by decide +kernel
theorem dL_law_485 : decode cL_law 485 = .ok (.iaload, 1) := by decide +kernel
theorem dL_law_486 : decode cL_law 486 = .ok (.invokevirtual 56, 3) := by decide +kernel
theorem dL_law_489 : decode cL_law 489 = .ok (.if_icmp .eq 382, 3) := by decide +kernel
theorem dL_law_492 : decode cL_law 492 = .ok (.iconst 0, 1) := by decide +kernel
theorem dL_law_493 : decode cL_law 493 = .ok (.ireturn, 1) := by decide +kernel
theorem dL_law_494 : decode cL_law 494 = .ok (.aload_n 1, 1) := by decide +kernel
theorem dL_law_495 : decode cL_law 495 = .ok (.aload_n 0, 1) := by decide +kernel
theorem dL_law_496 : decode cL_law 496 = .ok (.iload_n 3, 1) := by decide +kernel
theorem dL_law_497 : decode cL_law 497 = .ok (.iconst 1, 1) := by decide +kernel
theorem dL_law_498 : decode cL_law 498 = .ok (.iadd, 1) := by decide +kernel
theorem dL_law_499 : decode cL_law 499 = .ok (.iaload, 1) := by decide +kernel
theorem dL_law_500 : decode cL_law 500 = .ok (.aload_n 0, 1) := by decide +kernel
theorem dL_law_501 : decode cL_law 501 = .ok (.iload_n 3, 1) := by decide +kernel
theorem dL_law_502 : decode cL_law 502 = .ok (.iconst 2, 1) := by decide +kernel
theorem dL_law_503 : decode cL_law 503 = .ok (.iadd, 1) := by decide +kernel
theorem dL_law_504 : decode cL_law 504 = .ok (.iaload, 1) := by decide +kernel
theorem dL_law_505 : decode cL_law 505 = .ok (.aload_n 0, 1) := by decide +kernel
theorem dL_law_506 : decode cL_law 506 = .ok (.iload_n 3, 1) := by decide +kernel
theorem dL_law_507 : decode cL_law 507 = .ok (.iconst 3, 1) := by decide +kernel
theorem dL_law_508 : decode cL_law 508 = .ok (.iadd, 1) := by decide +kernel
theorem dL_law_509 : decode cL_law 509 = .ok (.iaload, 1) := by decide +kernel
theorem dL_law_510 : decode cL_law 510 = .ok (.invokevirtual 57, 3) := by decide +kernel
theorem dL_law_513 : decode cL_law 513 = .ok (.aload_n 2, 1) := by decide +kernel
theorem dL_law_514 : decode cL_law 514 = .ok (.aload_n 0, 1) := by decide +kernel
theorem dL_law_515 : decode cL_law 515 = .ok (.iload_n 3, 1) := by decide +kernel
theorem dL_law_516 : decode cL_law 516 = .ok (.iconst 1, 1) := by decide +kernel
theorem dL_law_517 : decode cL_law 517 = .ok (.iadd, 1) := by decide +kernel
theorem dL_law_518 : decode cL_law 518 = .ok (.iaload, 1) := by decide +kernel
theorem dL_law_519 : decode cL_law 519 = .ok (.aload_n 0, 1) := by decide +kernel
theorem dL_law_520 : decode cL_law 520 = .ok (.iload_n 3, 1) := by decide +kernel
theorem dL_law_521 : decode cL_law 521 = .ok (.iconst 2, 1) := by decide +kernel
theorem dL_law_522 : decode cL_law 522 = .ok (.iadd, 1) := by decide +kernel
theorem dL_law_523 : decode cL_law 523 = .ok (.iaload, 1) := by decide +kernel
theorem dL_law_524 : decode cL_law 524 = .ok (.aload_n 0, 1) := by decide +kernel
theorem dL_law_525 : decode cL_law 525 = .ok (.iload_n 3, 1) := by decide +kernel
theorem dL_law_526 : decode cL_law 526 = .ok (.iconst 3, 1) := by decide +kernel
theorem dL_law_527 : decode cL_law 527 = .ok (.iadd, 1) := by decide +kernel
theorem dL_law_528 : decode cL_law 528 = .ok (.iaload, 1) := by decide +kernel
theorem dL_law_529 : decode cL_law 529 = .ok (.invokevirtual 60, 3) := by decide +kernel
theorem dL_law_532 : decode cL_law 532 = .ok (.if_icmp .eq 339, 3) := by decide +kernel
theorem dL_law_535 : decode cL_law 535 = .ok (.iconst 0, 1) := by decide +kernel
theorem dL_law_536 : decode cL_law 536 = .ok (.ireturn, 1) := by decide +kernel
theorem dL_law_537 : decode cL_law 537 = .ok (.aload_n 1, 1) := by decide +kernel
theorem dL_law_538 : decode cL_law 538 = .ok (.aload_n 0, 1) := by decide +kernel
theorem dL_law_539 : decode cL_law 539 = .ok (.iload_n 3, 1) := by decide +kernel
theorem dL_law_540 : decode cL_law 540 = .ok (.iconst 1, 1) := by decide +kernel
theorem dL_law_541 : decode cL_law 541 = .ok (.iadd, 1) := by decide +kernel
theorem dL_law_542 : decode cL_law 542 = .ok (.iaload, 1) := by decide +kernel
theorem dL_law_543 : decode cL_law 543 = .ok (.invokevirtual 61, 3) := by decide +kernel
theorem dL_law_546 : decode cL_law 546 = .ok (.aload_n 2, 1) := by decide +kernel
theorem dL_law_547 : decode cL_law 547 = .ok (.aload_n 0, 1) := by decide +kernel
theorem dL_law_548 : decode cL_law 548 = .ok (.iload_n 3, 1) := by decide +kernel
theorem dL_law_549 : decode cL_law 549 = .ok (.iconst 1, 1) := by decide +kernel
theorem dL_law_550 : decode cL_law 550 = .ok (.iadd, 1) := by decide +kernel
theorem dL_law_551 : decode cL_law 551 = .ok (.iaload, 1) := by decide +kernel
theorem dL_law_552 : decode cL_law 552 = .ok (.invokevirtual 64, 3) := by decide +kernel
theorem dL_law_555 : decode cL_law 555 = .ok (.if_icmp .eq 316, 3) := by decide +kernel
theorem dL_law_558 : decode cL_law 558 = .ok (.iconst 0, 1) := by decide +kernel
theorem dL_law_559 : decode cL_law 559 = .ok (.ireturn, 1) := by decide +kernel
theorem dL_law_560 : decode cL_law 560 = .ok (.aload_n 1, 1) := by decide +kernel
theorem dL_law_561 : decode cL_law 561 = .ok (.aload_n 0, 1) := by decide +kernel
theorem dL_law_562 : decode cL_law 562 = .ok (.iload_n 3, 1) := by decide +kernel
theorem dL_law_563 : decode cL_law 563 = .ok (.iconst 1, 1) := by decide +kernel
theorem dL_law_564 : decode cL_law 564 = .ok (.iadd, 1) := by decide +kernel
theorem dL_law_565 : decode cL_law 565 = .ok (.iaload, 1) := by decide +kernel
theorem dL_law_566 : decode cL_law 566 = .ok (.i2c, 1) := by decide +kernel
theorem dL_law_567 : decode cL_law 567 = .ok (.invokevirtual 65, 3) := by decide +kernel
theorem dL_law_570 : decode cL_law 570 = .ok (.aload_n 2, 1) := by decide +kernel
theorem dL_law_571 : decode cL_law 571 = .ok (.aload_n 0, 1) := by decide +kernel
theorem dL_law_572 : decode cL_law 572 = .ok (.iload_n 3, 1) := by decide +kernel
theorem dL_law_573 : decode cL_law 573 = .ok (.iconst 1, 1) := by decide +kernel
theorem dL_law_574 : decode cL_law 574 = .ok (.iadd, 1) := by decide +kernel
theorem dL_law_575 : decode cL_law 575 = .ok (.iaload, 1) := by decide +kernel
theorem dL_law_576 : decode cL_law 576 = .ok (.i2c, 1) := by decide +kernel
theorem dL_law_577 : decode cL_law 577 = .ok (.invokevirtual 69, 3) := by decide +kernel
theorem dL_law_580 : decode cL_law 580 = .ok (.if_icmp .eq 291, 3) := by decide +kernel
theorem dL_law_583 : decode cL_law 583 = .ok (.iconst 0, 1) := by decide +kernel
theorem dL_law_584 : decode cL_law 584 = .ok (.ireturn, 1) := by decide +kernel
theorem dL_law_585 : decode cL_law 585 = .ok (.aload_n 1, 1) := by decide +kernel
theorem dL_law_586 : decode cL_law 586 = .ok (.invokevirtual 70, 3) := by decide +kernel
theorem dL_law_589 : decode cL_law 589 = .ok (.aload_n 2, 1) := by decide +kernel
theorem dL_law_590 : decode cL_law 590 = .ok (.invokevirtual 74, 3) := by decide +kernel
theorem dL_law_593 : decode cL_law 593 = .ok (.if_icmp .eq 278, 3) := by decide +kernel
theorem dL_law_596 : decode cL_law 596 = .ok (.iconst 0, 1) := by decide +kernel
theorem dL_law_597 : decode cL_law 597 = .ok (.ireturn, 1) := by decide +kernel
theorem dL_law_598 : decode cL_law 598 = .ok (.aload_n 1, 1) := by decide +kernel
theorem dL_law_599 : decode cL_law 599 = .ok (.invokevirtual 75, 3) := by decide +kernel
theorem dL_law_602 : decode cL_law 602 = .ok (.aload_n 2, 1) := by decide +kernel
theorem dL_law_603 : decode cL_law 603 = .ok (.invokevirtual 78, 3) := by decide +kernel
theorem dL_law_606 : decode cL_law 606 = .ok (.if_icmp .eq 265, 3) := by decide +kernel
theorem dL_law_609 : decode cL_law 609 = .ok (.iconst 0, 1) := by decide +kernel
theorem dL_law_610 : decode cL_law 610 = .ok (.ireturn, 1) := by decide +kernel
theorem dL_law_611 : decode cL_law 611 = .ok (.aload_n 1, 1) := by decide +kernel
theorem dL_law_612 : decode cL_law 612 = .ok (.invokevirtual 79, 3) := by decide +kernel
theorem dL_law_615 : decode cL_law 615 = .ok (.aload_n 2, 1) := by decide +kernel
theorem dL_law_616 : decode cL_law 616 = .ok (.invokevirtual 82, 3) := by decide +kernel
theorem dL_law_619 : decode cL_law 619 = .ok (.if_icmp .eq 252, 3) := by decide +kernel
theorem dL_law_622 : decode cL_law 622 = .ok (.iconst 0, 1) := by decide +kernel
theorem dL_law_623 : decode cL_law 623 = .ok (.ireturn, 1) := by decide +kernel
theorem dL_law_624 : decode cL_law 624 = .ok (.aload_n 1, 1) := by decide +kernel
theorem dL_law_625 : decode cL_law 625 = .ok (.invokevirtual 83, 3) := by decide +kernel
theorem dL_law_628 : decode cL_law 628 = .ok (.aload_n 2, 1) := by decide +kernel
theorem dL_law_629 : decode cL_law 629 = .ok (.invokevirtual 86, 3) := by decide +kernel
theorem dL_law_632 : decode cL_law 632 = .ok (.if_icmp .eq 239, 3) := by decide +kernel
theorem dL_law_635 : decode cL_law 635 = .ok (.iconst 0, 1) := by decide +kernel
theorem dL_law_636 : decode cL_law 636 = .ok (.ireturn, 1) := by decide +kernel
theorem dL_law_637 : decode cL_law 637 = .ok (.aload_n 1, 1) := by decide +kernel
theorem dL_law_638 : decode cL_law 638 = .ok (.invokevirtual 87, 3) := by decide +kernel
theorem dL_law_641 : decode cL_law 641 = .ok (.aload_n 2, 1) := by decide +kernel
theorem dL_law_642 : decode cL_law 642 = .ok (.invokevirtual 90, 3) := by decide +kernel
theorem dL_law_645 : decode cL_law 645 = .ok (.if_icmp .eq 226, 3) := by decide +kernel
theorem dL_law_648 : decode cL_law 648 = .ok (.iconst 0, 1) := by decide +kernel
theorem dL_law_649 : decode cL_law 649 = .ok (.ireturn, 1) := by decide +kernel
theorem dL_law_650 : decode cL_law 650 = .ok (.aload_n 1, 1) := by decide +kernel
theorem dL_law_651 : decode cL_law 651 = .ok (.aload_n 0, 1) := by decide +kernel
theorem dL_law_652 : decode cL_law 652 = .ok (.iload_n 3, 1) := by decide +kernel
theorem dL_law_653 : decode cL_law 653 = .ok (.iconst 1, 1) := by decide +kernel
theorem dL_law_654 : decode cL_law 654 = .ok (.iadd, 1) := by decide +kernel
theorem dL_law_655 : decode cL_law 655 = .ok (.iaload, 1) := by decide +kernel
theorem dL_law_656 : decode cL_law 656 = .ok (.aload_n 0, 1) := by decide +kernel
theorem dL_law_657 : decode cL_law 657 = .ok (.iload_n 3, 1) := by decide +kernel
theorem dL_law_658 : decode cL_law 658 = .ok (.iconst 2, 1) := by decide +kernel
theorem dL_law_659 : decode cL_law 659 = .ok (.iadd, 1) := by decide +kernel
theorem dL_law_660 : decode cL_law 660 = .ok (.iaload, 1) := by decide +kernel
theorem dL_law_661 : decode cL_law 661 = .ok (.invokevirtual 91, 3) := by decide +kernel
theorem dL_law_664 : decode cL_law 664 = .ok (.aload_n 2, 1) := by decide +kernel
theorem dL_law_665 : decode cL_law 665 = .ok (.aload_n 0, 1) := by decide +kernel
theorem dL_law_666 : decode cL_law 666 = .ok (.iload_n 3, 1) := by decide +kernel
theorem dL_law_667 : decode cL_law 667 = .ok (.iconst 1, 1) := by decide +kernel
theorem dL_law_668 : decode cL_law 668 = .ok (.iadd, 1) := by decide +kernel
theorem dL_law_669 : decode cL_law 669 = .ok (.iaload, 1) := by decide +kernel
theorem dL_law_670 : decode cL_law 670 = .ok (.aload_n 0, 1) := by decide +kernel
theorem dL_law_671 : decode cL_law 671 = .ok (.iload_n 3, 1) := by decide +kernel
theorem dL_law_672 : decode cL_law 672 = .ok (.iconst 2, 1) := by decide +kernel
theorem dL_law_673 : decode cL_law 673 = .ok (.iadd, 1) := by decide +kernel
theorem dL_law_674 : decode cL_law 674 = .ok (.iaload, 1) := by decide +kernel
theorem dL_law_675 : decode cL_law 675 = .ok (.invokevirtual 94, 3) := by decide +kernel
theorem dL_law_678 : decode cL_law 678 = .ok (.if_icmp .eq 193, 3) := by decide +kernel
theorem dL_law_681 : decode cL_law 681 = .ok (.iconst 0, 1) := by decide +kernel
theorem dL_law_682 : decode cL_law 682 = .ok (.ireturn, 1) := by decide +kernel
theorem dL_law_683 : decode cL_law 683 = .ok (.aload_n 1, 1) := by decide +kernel
theorem dL_law_684 : decode cL_law 684 = .ok (.aload_n 0, 1) := by decide +kernel
theorem dL_law_685 : decode cL_law 685 = .ok (.iload_n 3, 1) := by decide +kernel
theorem dL_law_686 : decode cL_law 686 = .ok (.iconst 1, 1) := by decide +kernel
theorem dL_law_687 : decode cL_law 687 = .ok (.iadd, 1) := by decide +kernel
theorem dL_law_688 : decode cL_law 688 = .ok (.iaload, 1) := by decide +kernel
theorem dL_law_689 : decode cL_law 689 = .ok (.aload_n 0, 1) := by decide +kernel
theorem dL_law_690 : decode cL_law 690 = .ok (.iload_n 3, 1) := by decide +kernel
theorem dL_law_691 : decode cL_law 691 = .ok (.iconst 2, 1) := by decide +kernel
theorem dL_law_692 : decode cL_law 692 = .ok (.iadd, 1) := by decide +kernel
theorem dL_law_693 : decode cL_law 693 = .ok (.iaload, 1) := by decide +kernel
theorem dL_law_694 : decode cL_law 694 = .ok (.invokevirtual 95, 3) := by decide +kernel
theorem dL_law_697 : decode cL_law 697 = .ok (.aload_n 2, 1) := by decide +kernel
theorem dL_law_698 : decode cL_law 698 = .ok (.aload_n 0, 1) := by decide +kernel
theorem dL_law_699 : decode cL_law 699 = .ok (.iload_n 3, 1) := by decide +kernel
theorem dL_law_700 : decode cL_law 700 = .ok (.iconst 1, 1) := by decide +kernel
theorem dL_law_701 : decode cL_law 701 = .ok (.iadd, 1) := by decide +kernel
theorem dL_law_702 : decode cL_law 702 = .ok (.iaload, 1) := by decide +kernel
theorem dL_law_703 : decode cL_law 703 = .ok (.aload_n 0, 1) := by decide +kernel
theorem dL_law_704 : decode cL_law 704 = .ok (.iload_n 3, 1) := by decide +kernel
theorem dL_law_705 : decode cL_law 705 = .ok (.iconst 2, 1) := by decide +kernel
theorem dL_law_706 : decode cL_law 706 = .ok (.iadd, 1) := by decide +kernel
theorem dL_law_707 : decode cL_law 707 = .ok (.iaload, 1) := by decide +kernel
theorem dL_law_708 : decode cL_law 708 = .ok (.invokevirtual 98, 3) := by decide +kernel
theorem dL_law_711 : decode cL_law 711 = .ok (.if_icmp .eq 160, 3) := by decide +kernel
theorem dL_law_714 : decode cL_law 714 = .ok (.iconst 0, 1) := by decide +kernel
theorem dL_law_715 : decode cL_law 715 = .ok (.ireturn, 1) := by decide +kernel
theorem dL_law_716 : decode cL_law 716 = .ok (.aload_n 1, 1) := by decide +kernel
theorem dL_law_717 : decode cL_law 717 = .ok (.aload_n 0, 1) := by decide +kernel
theorem dL_law_718 : decode cL_law 718 = .ok (.iload_n 3, 1) := by decide +kernel
theorem dL_law_719 : decode cL_law 719 = .ok (.iconst 1, 1) := by decide +kernel
theorem dL_law_720 : decode cL_law 720 = .ok (.iadd, 1) := by decide +kernel
theorem dL_law_721 : decode cL_law 721 = .ok (.iaload, 1) := by decide +kernel
theorem dL_law_722 : decode cL_law 722 = .ok (.aload_n 0, 1) := by decide +kernel
theorem dL_law_723 : decode cL_law 723 = .ok (.iload_n 3, 1) := by decide +kernel
theorem dL_law_724 : decode cL_law 724 = .ok (.iconst 2, 1) := by decide +kernel
theorem dL_law_725 : decode cL_law 725 = .ok (.iadd, 1) := by decide +kernel
theorem dL_law_726 : decode cL_law 726 = .ok (.iaload, 1) := by decide +kernel
theorem dL_law_727 : decode cL_law 727 = .ok (.invokevirtual 99, 3) := by decide +kernel
theorem dL_law_730 : decode cL_law 730 = .ok (.aload_n 2, 1) := by decide +kernel
theorem dL_law_731 : decode cL_law 731 = .ok (.aload_n 0, 1) := by decide +kernel
theorem dL_law_732 : decode cL_law 732 = .ok (.iload_n 3, 1) := by decide +kernel
theorem dL_law_733 : decode cL_law 733 = .ok (.iconst 1, 1) := by decide +kernel
theorem dL_law_734 : decode cL_law 734 = .ok (.iadd, 1) := by decide +kernel
theorem dL_law_735 : decode cL_law 735 = .ok (.iaload, 1) := by decide +kernel
theorem dL_law_736 : decode cL_law 736 = .ok (.aload_n 0, 1) := by decide +kernel
theorem dL_law_737 : decode cL_law 737 = .ok (.iload_n 3, 1) := by decide +kernel
theorem dL_law_738 : decode cL_law 738 = .ok (.iconst 2, 1) := by decide +kernel
theorem dL_law_739 : decode cL_law 739 = .ok (.iadd, 1) := by decide +kernel
theorem dL_law_740 : decode cL_law 740 = .ok (.iaload, 1) := by decide +kernel
theorem dL_law_741 : decode cL_law 741 = .ok (.invokevirtual 102, 3) := by decide +kernel
theorem dL_law_744 : decode cL_law 744 = .ok (.if_icmp .eq 127, 3) := by decide +kernel
theorem dL_law_747 : decode cL_law 747 = .ok (.iconst 0, 1) := by decide +kernel
theorem dL_law_748 : decode cL_law 748 = .ok (.ireturn, 1) := by decide +kernel
theorem dL_law_749 : decode cL_law 749 = .ok (.aload_n 1, 1) := by decide +kernel
theorem dL_law_750 : decode cL_law 750 = .ok (.aload_n 0, 1) := by decide +kernel
theorem dL_law_751 : decode cL_law 751 = .ok (.iload_n 3, 1) := by decide +kernel
theorem dL_law_752 : decode cL_law 752 = .ok (.iconst 1, 1) := by decide +kernel
theorem dL_law_753 : decode cL_law 753 = .ok (.iadd, 1) := by decide +kernel
theorem dL_law_754 : decode cL_law 754 = .ok (.iaload, 1) := by decide +kernel
theorem dL_law_755 : decode cL_law 755 = .ok (.aload_n 0, 1) := by decide +kernel
theorem dL_law_756 : decode cL_law 756 = .ok (.iload_n 3, 1) := by decide +kernel
theorem dL_law_757 : decode cL_law 757 = .ok (.iconst 2, 1) := by decide +kernel
theorem dL_law_758 : decode cL_law 758 = .ok (.iadd, 1) := by decide +kernel
theorem dL_law_759 : decode cL_law 759 = .ok (.iaload, 1) := by decide +kernel
theorem dL_law_760 : decode cL_law 760 = .ok (.aload_n 0, 1) := by decide +kernel
theorem dL_law_761 : decode cL_law 761 = .ok (.iload_n 3, 1) := by decide +kernel
theorem dL_law_762 : decode cL_law 762 = .ok (.iconst 3, 1) := by decide +kernel
theorem dL_law_763 : decode cL_law 763 = .ok (.iadd, 1) := by decide +kernel
theorem dL_law_764 : decode cL_law 764 = .ok (.iaload, 1) := by decide +kernel
theorem dL_law_765 : decode cL_law 765 = .ok (.invokevirtual 103, 3) := by decide +kernel
theorem dL_law_768 : decode cL_law 768 = .ok (.aload_n 2, 1) := by decide +kernel
theorem dL_law_769 : decode cL_law 769 = .ok (.aload_n 0, 1) := by decide +kernel
theorem dL_law_770 : decode cL_law 770 = .ok (.iload_n 3, 1) := by decide +kernel
theorem dL_law_771 : decode cL_law 771 = .ok (.iconst 1, 1) := by decide +kernel
theorem dL_law_772 : decode cL_law 772 = .ok (.iadd, 1) := by decide +kernel
theorem dL_law_773 : decode cL_law 773 = .ok (.iaload, 1) := by decide +kernel
theorem dL_law_774 : decode cL_law 774 = .ok (.aload_n 0, 1) := by decide +kernel
theorem dL_law_775 : decode cL_law 775 = .ok (.iload_n 3, 1) := by decide +kernel
theorem dL_law_776 : decode cL_law 776 = .ok (.iconst 2, 1) := by decide +kernel
theorem dL_law_777 : decode cL_law 777 = .ok (.iadd, 1) := by decide +kernel
theorem dL_law_778 : decode cL_law 778 = .ok (.iaload, 1) := by decide +kernel
theorem dL_law_779 : decode cL_law 779 = .ok (.aload_n 0, 1) := by decide +kernel
theorem dL_law_780 : decode cL_law 780 = .ok (.iload_n 3, 1) := by decide +kernel
theorem dL_law_781 : decode cL_law 781 = .ok (.iconst 3, 1) := by decide +kernel
theorem dL_law_782 : decode cL_law 782 = .ok (.iadd, 1) := by decide +kernel
theorem dL_law_783 : decode cL_law 783 = .ok (.iaload, 1) := by decide +kernel
theorem dL_law_784 : decode cL_law 784 = .ok (.invokevirtual 106, 3) := by decide +kernel
theorem dL_law_787 : decode cL_law 787 = .ok (.if_icmp .eq 84, 3) := by decide +kernel
theorem dL_law_790 : decode cL_law 790 = .ok (.iconst 0, 1) := by decide +kernel
theorem dL_law_791 : decode cL_law 791 = .ok (.ireturn, 1) := by decide +kernel
theorem dL_law_792 : decode cL_law 792 = .ok (.aload_n 1, 1) := by decide +kernel
theorem dL_law_793 : decode cL_law 793 = .ok (.aload_n 0, 1) := by decide +kernel
theorem dL_law_794 : decode cL_law 794 = .ok (.iload_n 3, 1) := by decide +kernel
theorem dL_law_795 : decode cL_law 795 = .ok (.iconst 1, 1) := by decide +kernel
theorem dL_law_796 : decode cL_law 796 = .ok (.iadd, 1) := by decide +kernel
theorem dL_law_797 : decode cL_law 797 = .ok (.iaload, 1) := by decide +kernel
theorem dL_law_798 : decode cL_law 798 = .ok (.invokevirtual 107, 3) := by decide +kernel
theorem dL_law_801 : decode cL_law 801 = .ok (.aload_n 2, 1) := by decide +kernel
theorem dL_law_802 : decode cL_law 802 = .ok (.aload_n 0, 1) := by decide +kernel
theorem dL_law_803 : decode cL_law 803 = .ok (.iload_n 3, 1) := by decide +kernel
theorem dL_law_804 : decode cL_law 804 = .ok (.iconst 1, 1) := by decide +kernel
theorem dL_law_805 : decode cL_law 805 = .ok (.iadd, 1) := by decide +kernel
theorem dL_law_806 : decode cL_law 806 = .ok (.iaload, 1) := by decide +kernel
theorem dL_law_807 : decode cL_law 807 = .ok (.invokevirtual 110, 3) := by decide +kernel
theorem dL_law_810 : decode cL_law 810 = .ok (.if_icmp .eq 61, 3) := by decide +kernel
theorem dL_law_813 : decode cL_law 813 = .ok (.iconst 0, 1) := by decide +kernel
theorem dL_law_814 : decode cL_law 814 = .ok (.ireturn, 1) := by decide +kernel
theorem dL_law_815 : decode cL_law 815 = .ok (.aload_n 1, 1) := by decide +kernel
theorem dL_law_816 : decode cL_law 816 = .ok (.aload_n 0, 1) := by decide +kernel
theorem dL_law_817 : decode cL_law 817 = .ok (.iload_n 3, 1) := by decide +kernel
theorem dL_law_818 : decode cL_law 818 = .ok (.iconst 1, 1) := by decide +kernel
theorem dL_law_819 : decode cL_law 819 = .ok (.iadd, 1) := by decide +kernel
theorem dL_law_820 : decode cL_law 820 = .ok (.iaload, 1) := by decide +kernel
theorem dL_law_821 : decode cL_law 821 = .ok (.aload_n 0, 1) := by decide +kernel
theorem dL_law_822 : decode cL_law 822 = .ok (.iload_n 3, 1) := by decide +kernel
theorem dL_law_823 : decode cL_law 823 = .ok (.iconst 2, 1) := by decide +kernel
theorem dL_law_824 : decode cL_law 824 = .ok (.iadd, 1) := by decide +kernel
theorem dL_law_825 : decode cL_law 825 = .ok (.iaload, 1) := by decide +kernel
theorem dL_law_826 : decode cL_law 826 = .ok (.invokevirtual 111, 3) := by decide +kernel
theorem dL_law_829 : decode cL_law 829 = .ok (.aload_n 2, 1) := by decide +kernel
theorem dL_law_830 : decode cL_law 830 = .ok (.aload_n 0, 1) := by decide +kernel
theorem dL_law_831 : decode cL_law 831 = .ok (.iload_n 3, 1) := by decide +kernel
theorem dL_law_832 : decode cL_law 832 = .ok (.iconst 1, 1) := by decide +kernel
theorem dL_law_833 : decode cL_law 833 = .ok (.iadd, 1) := by decide +kernel
theorem dL_law_834 : decode cL_law 834 = .ok (.iaload, 1) := by decide +kernel
theorem dL_law_835 : decode cL_law 835 = .ok (.aload_n 0, 1) := by decide +kernel
theorem dL_law_836 : decode cL_law 836 = .ok (.iload_n 3, 1) := by decide +kernel
theorem dL_law_837 : decode cL_law 837 = .ok (.iconst 2, 1) := by decide +kernel
theorem dL_law_838 : decode cL_law 838 = .ok (.iadd, 1) := by decide +kernel
theorem dL_law_839 : decode cL_law 839 = .ok (.iaload, 1) := by decide +kernel
theorem dL_law_840 : decode cL_law 840 = .ok (.invokevirtual 114, 3) := by decide +kernel
theorem dL_law_843 : decode cL_law 843 = .ok (.if_icmp .eq 28, 3) := by decide +kernel
theorem dL_law_846 : decode cL_law 846 = .ok (.iconst 0, 1) := by decide +kernel
theorem dL_law_847 : decode cL_law 847 = .ok (.ireturn, 1) := by decide +kernel
theorem dL_law_848 : decode cL_law 848 = .ok (.aload_n 1, 1) := by decide +kernel
theorem dL_law_849 : decode cL_law 849 = .ok (.aload_n 0, 1) := by decide +kernel
theorem dL_law_850 : decode cL_law 850 = .ok (.iload_n 3, 1) := by decide +kernel
theorem dL_law_851 : decode cL_law 851 = .ok (.iconst 1, 1) := by decide +kernel
theorem dL_law_852 : decode cL_law 852 = .ok (.iadd, 1) := by decide +kernel
theorem dL_law_853 : decode cL_law 853 = .ok (.iaload, 1) := by decide +kernel
theorem dL_law_854 : decode cL_law 854 = .ok (.invokevirtual 115, 3) := by decide +kernel
theorem dL_law_857 : decode cL_law 857 = .ok (.aload_n 2, 1) := by decide +kernel
theorem dL_law_858 : decode cL_law 858 = .ok (.aload_n 0, 1) := by decide +kernel
theorem dL_law_859 : decode cL_law 859 = .ok (.iload_n 3, 1) := by decide +kernel
theorem dL_law_860 : decode cL_law 860 = .ok (.iconst 1, 1) := by decide +kernel
theorem dL_law_861 : decode cL_law 861 = .ok (.iadd, 1) := by decide +kernel
theorem dL_law_862 : decode cL_law 862 = .ok (.iaload, 1) := by decide +kernel
theorem dL_law_863 : decode cL_law 863 = .ok (.invokevirtual 118, 3) := by decide +kernel
theorem dL_law_866 : decode cL_law 866 = .ok (.if_icmp .eq 5, 3) := by decide +kernel
theorem dL_law_869 : decode cL_law 869 = .ok (.iconst 0, 1) := by decide +kernel
theorem dL_law_870 : decode cL_law 870 = .ok (.ireturn, 1) := by decide +kernel
theorem dL_law_871 : decode cL_law 871 = .ok (.iinc 3 5, 3) := by decide +kernel
theorem dL_law_874 : decode cL_law 874 = .ok (.goto (-856), 3) := by decide +kernel
theorem dL_law_877 : decode cL_law 877 = .ok (.iconst 1, 1) := by decide +kernel
theorem dL_law_878 : decode cL_law 878 = .ok (.ireturn, 1) := by decide +kernel
end
section
/-! THE STORE AND THE LAYOUT: what the objects of class and reference hold, and where they lie once both are made -/
abbrev Sto : Type := (Nat → Nat → Nat → Int32) × (Nat → Nat)
def up (σ : Sto) (f j l : Nat) (v : Int32) : Sto := (fun f' j' l' => if f' = f ∧ j' = j ∧ l' = l then v else σ.1 f' j' l', σ.2)
def upH (σ : Sto) (i m : Nat) : Sto := (σ.1, fun i' => if i' = i then m else σ.2 i')
def mb (j : Nat) : Nat := if j < 3 then 1 + 83 * j else 252 + 83 * (j - 3)
def off (κ j l : Nat) : Nat := match κ with
  | 0 => 587 + l
  | 1 => 584
  | 2 => 250
  | 3 => mb j + 5 + l
  | 4 => mb j + 13 + l
  | 5 => mb j
  | 6 => mb j + 23 + l
  | 7 => 597
  | 8 => 598
  | 9 => 0
  | 10 => 602
  | 11 => mb j + 1
  | 12 => mb j + 2
  | 13 => mb j + 3
  | 14 => mb j + 4
  | 15 => 251
  | 16 => 585
  | 17 => 586
  | 18 => 599 + j
  | κ => 603 + (κ - 19)
def cj (κ : Nat) : Nat := match κ with
  | 3 => 7 | 4 => 7 | 5 => 7 | 6 => 7 | 11 => 7 | 12 => 7 | 13 => 7 | 14 => 7 | 18 => 3 | _ => 1
def cl (κ : Nat) : Nat := match κ with
  | 0 => 10 | 3 => 8 | 4 => 10 | 6 => 60 | _ => 1
def mtok (j r : Nat) : Nat × Nat × Nat :=
  if r = 0 then (5, j, 0) else if r = 1 then (11, j, 0) else if r = 2 then (12, j, 0) else if r = 3 then (13, j, 0) else if r = 4 then (14, j, 0) else if r < 13 then (3, j, r - 5) else if r < 23 then (4, j, r - 13) else (6, j, r - 23)
def tok (t : Nat) : Nat × Nat × Nat :=
  if t = 0 then (9, 0, 0) else if t < 250 then mtok ((t - 1) / 83) ((t - 1) % 83) else if t = 250 then (2, 0, 0) else if t = 251 then (15, 0, 0) else if t < 584 then mtok ((t - 252) / 83 + 3) ((t - 252) % 83)
  else if t = 584 then (1, 0, 0) else if t = 585 then (16, 0, 0) else if t = 586 then (17, 0, 0) else if t < 597 then (0, 0, t - 587) else if t = 597 then (7, 0, 0) else if t = 598 then (8, 0, 0) else if t < 602 then (18, t - 599, 0) else if t = 602 then (10, 0, 0) else (t - 603 + 19, 0, 0)
def okt (κ j l : Nat) : Prop := κ < 27 ∧ j < cj κ ∧ l < cl κ
set_option maxRecDepth 100000 in
theorem off_tok : ∀ t, t < 611 → off (tok t).1 (tok t).2.1 (tok t).2.2 = t ∧ (tok t).1 < 27 ∧ (tok t).2.1 < cj (tok t).1 ∧ (tok t).2.2 < cl (tok t).1 := by decide +kernel
set_option maxRecDepth 100000 in
theorem tok_off0 : ∀ κ, κ < 27 → ∀ j, j < cj κ → ∀ l, l < cl κ → tok (off κ j l) = (κ, j, l) ∧ off κ j l < 611 := by decide +kernel
theorem tok_off {κ j l : Nat} (h : okt κ j l) : tok (off κ j l) = (κ, j, l) := (tok_off0 κ h.1 j h.2.1 l h.2.2).1
theorem off_lt {κ j l : Nat} (h : okt κ j l) : off κ j l < 611 := (tok_off0 κ h.1 j h.2.1 l h.2.2).2
/-- the base address, the address of the fees, the classes' numbers and slots, the arrays' classes -/
abbrev Gm : Type := Nat × Nat × va_G × (Nat → ClassId)
abbrev clz : List vw_C := [(RX0, TX0, 4), (RX1, TX1, 4), (RX2, TX2, 2), (RX3, TX3, 3), (RX4, TX4, 11), (RX5, TX5, 10), (RX6, TX6, 7), (RX7, TX7, 6), (RX8, TX8, 3), (RX9, TX9, 8), (RX10, TX10, 15)]
abbrev tysG (G : Gm) : List (ClassId × FieldType) := [(G.2.2.2 0, .int), (G.2.2.2 1, .char), (G.2.2.2 2, .object RX3), (G.2.2.2 3, .object RX4), (G.2.2.2 4, .object RX6), (G.2.2.2 5, .object RX5), (G.2.2.2 6, .object RX0)]
def ad (G : Gm) (κ j l : Nat) : Nat := G.1 + off κ j l
def rf (G : Gm) (κ j l : Nat) : Value := .ref (ad G κ j l)
def ia (G : Gm) (σ : Sto) (f j n : Nat) : va_E := .inl (G.2.2.2 0, n, .inl (σ.1 f j))
def ra (G : Gm) (c n : Nat) (g : Nat → Nat) : va_E := .inl (G.2.2.2 c, n, .inr (.inr (.inr (.inr fun i => some (g i)))))
/-- what the object or array (κ, j, l) holds -/
def cE (G : Gm) (σ : Sto) (κ j l : Nat) : va_E := match κ with
  | 0 => .inr (0, [.int (σ.1 0 j l), .int (σ.1 1 j l), .int (σ.1 2 j l), .int (σ.1 3 j l)])
  | 1 => .inr (1, [rf G 16 0 0, .int (σ.1 17 j l), rf G 17 0 0, .int (σ.1 19 j l)])
  | 2 => .inr (2, [rf G 15 0 0, .int (σ.1 33 j l)])
  | 3 => .inr (3, [.int (σ.1 48 j l), .int (σ.1 49 j l), .int (σ.1 50 j l)])
  | 4 => .inr (4, [.int (σ.1 64 j l), .int (σ.1 65 j l), .int (σ.1 66 j l), .int (σ.1 67 j l), .int (σ.1 68 j l), .int (σ.1 69 j l), .int (σ.1 70 j l), .int (σ.1 71 j l), .int (σ.1 72 j l), .int (σ.1 73 j l), .int (σ.1 74 j l)])
  | 5 => .inr (5, [rf G 11 j 0, rf G 12 j 0, rf G 13 j 0, rf G 14 j 0, .int (σ.1 84 j l), .int (σ.1 85 j l), .int (σ.1 86 j l), .int (σ.1 87 j l), .int (σ.1 88 j l), .int (σ.1 89 j l)])
  | 6 => .inr (6, [.int (σ.1 96 j l), .int (σ.1 97 j l), .int (σ.1 98 j l), .int (σ.1 99 j l), .int (σ.1 100 j l), .int (σ.1 101 j l), .int (σ.1 102 j l)])
  | 7 => .inr (7, [.int (σ.1 112 j l), .int (σ.1 113 j l), .int (σ.1 114 j l), .int (σ.1 115 j l), .int (σ.1 116 j l), .int (σ.1 117 j l)])
  | 8 => .inr (8, [rf G 18 0 0, rf G 18 1 0, rf G 18 2 0])
  | 9 => .inr (9, [rf G 5 0 0, rf G 5 1 0, rf G 5 2 0, .int (σ.1 147 j l), rf G 2 0 0, rf G 1 0 0, rf G 7 0 0, rf G 8 0 0])
  | 10 => .inr (10, [.int (σ.1 160 j l), rf G 19 0 0, rf G 20 0 0, rf G 21 0 0, .int (σ.1 164 j l), rf G 22 0 0, .int (σ.1 166 j l), rf G 23 0 0, .int (σ.1 168 j l), .int (σ.1 169 j l), rf G 24 0 0, rf G 25 0 0, .int (σ.1 172 j l), .int (σ.1 173 j l), rf G 26 0 0])
  | 11 => ra G 2 8 (fun i => ad G 3 j i)
  | 12 => ra G 3 10 (fun i => ad G 4 j i)
  | 13 => ra G 4 60 (fun i => ad G 6 j i)
  | 14 => ia G σ 224 j 4
  | 15 => ra G 5 4 (fun i => ad G 5 (σ.2 i) 0)
  | 16 => .inl (G.2.2.2 1, 60, .inl (σ.1 256 j))
  | 17 => ra G 6 10 (fun i => ad G 0 0 i)
  | 18 => ia G σ 288 j 60
  | 19 => ia G σ 304 j 564
  | 20 => ia G σ 320 j 564
  | 21 => ia G σ 336 j 564
  | 22 => ia G σ 352 j 2256
  | 23 => ia G σ 368 j 60
  | 24 => ia G σ 384 j 60
  | 25 => ia G σ 400 j 60
  | _ => ia G σ 416 j 64
theorem cE_congr {G : Gm} {σ τ : Sto} {κ j l : Nat} (hκ : κ < 27) (h1 : κ < 11 → ∀ k, k < 16 → σ.1 (16 * κ + k) j l = τ.1 (16 * κ + k) j l) (h2 : 11 ≤ κ → σ.1 (16 * κ) j = τ.1 (16 * κ) j) (h3 : κ = 15 → ∀ i, i < 4 → σ.2 i = τ.2 i) (h4 : κ = 15 → ∀ i, 4 ≤ i → σ.2 i = τ.2 i) : cE G σ κ j l = cE G τ κ j l := by
  have g3 : κ = 15 → σ.2 = τ.2 := fun h => funext fun i => by
    rcases Nat.lt_or_ge i 4 with q | q
    · exact h3 h i q
    · exact h4 h i q
  by_cases hk : κ < 11
  · have h1 := h1 hk
    have hh : ∀ f, 16 * κ ≤ f → f < 16 * κ + 16 → σ.1 f j l = τ.1 f j l := fun f a b => by
      have := h1 (f - 16 * κ) (by omega)
      rwa [show 16 * κ + (f - 16 * κ) = f by omega] at this
    rcases (show κ = 0 ∨ κ = 1 ∨ κ = 2 ∨ κ = 3 ∨ κ = 4 ∨ κ = 5 ∨ κ = 6 ∨ κ = 7 ∨ κ = 8 ∨ κ = 9 ∨ κ = 10 by omega) with rfl | rfl | rfl | rfl | rfl | rfl | rfl | rfl | rfl | rfl | rfl <;> simp (disch := omega) only [cE, hh]
  · have h2 := h2 (by omega)
    rcases (show κ = 11 ∨ κ = 12 ∨ κ = 13 ∨ κ = 14 ∨ κ = 15 ∨ κ = 16 ∨ κ = 17 ∨ κ = 18 ∨ κ = 19 ∨ κ = 20 ∨ κ = 21 ∨ κ = 22 ∨ κ = 23 ∨ κ = 24 ∨ κ = 25 ∨ κ = 26 by omega) with rfl | rfl | rfl | rfl | rfl | rfl | rfl | rfl | rfl | rfl | rfl | rfl | rfl | rfl | rfl | rfl <;> first | rfl | (simp only [cE, g3 rfl]; done) | (simp only [cE, ia]; simp only [Nat.reduceMul] at h2; rw [h2])
/-- all cells, by their places -/
def cT (G : Gm) (σ : Sto) (t : Nat) : va_E := cE G σ (tok t).1 (tok t).2.1 (tok t).2.2
def wl (G : Gm) (σ : Sto) : va_W := (List.range 611).map (fun t => (G.1 + t, cT G σ t))
/-- which cells may be written: from the base on -/
def AG (G : Gm) : Nat → Prop := fun q => G.1 ≤ q
theorem wl_at {G : Gm} {σ : Sto} {t : Nat} (h : t < 611) : (wl G σ)[t]? = some (G.1 + t, cT G σ t) := by
  simp only [wl, List.getElem?_map, List.getElem?_range h, Option.map_some]
theorem wl_lt {G : Gm} {σ : Sto} {t : Nat} {q : Nat × va_E} (h : (wl G σ)[t]? = some q) : t < 611 ∧ q = (G.1 + t, cT G σ t) := by
  have h1 := (List.getElem?_eq_some_iff.mp h).1
  have h2 : t < 611 := by simpa only [wl, List.length_map, List.length_range] using h1
  rw [wl_at h2] at h
  exact ⟨h2, (Option.some.inj h).symm⟩
theorem wl_get {G : Gm} {σ : Sto} {κ j l : Nat} (hk : okt κ j l) : (wl G σ)[off κ j l]? = some (ad G κ j l, cE G σ κ j l) := by
  rw [wl_at (off_lt hk), cT, tok_off hk]
  rfl
theorem wl_D {G : Gm} {σ : Sto} : va_D (AG G) (wl G σ) := by
  refine ⟨fun i j p q hi hj e => ?_, fun k q hk => ?_⟩
  · rw [(wl_lt hi).2, (wl_lt hj).2] at e
    exact Nat.add_left_cancel e
  · rw [(wl_lt hk).2]
    exact Nat.le_add_right _ _
theorem wl_set {G : Gm} {σ τ : Sto} {κ j l : Nat} {e : va_E} (hk : okt κ j l) (he : e = cE G τ κ j l) (h : ∀ t, t < 611 → ¬ tok t = (κ, j, l) → cT G τ t = cT G σ t) : (wl G σ).set (off κ j l) (ad G κ j l, e) = wl G τ := by
  subst he
  refine List.ext_getElem? fun t => ?_
  by_cases ht : t < 611
  · rw [wl_at ht]
    by_cases hn : tok t = (κ, j, l)
    · have e : t = off κ j l := by have := (off_tok t ht).1; rw [hn] at this; exact this.symm
      rw [← e, List.getElem?_set_self (by simpa only [wl, List.length_map, List.length_range] using ht), cT, hn, e]
      rfl
    · have hne : off κ j l ≠ t := fun e => hn (by rw [← e, tok_off hk])
      rw [List.getElem?_set_ne hne, wl_at ht, h t ht hn]
  · have hl : ∀ ρ : Sto, (wl G ρ).length = 611 := fun ρ => by simp only [wl, List.length_map, List.length_range]
    rw [List.getElem?_eq_none (by rw [List.length_set, hl]; omega), List.getElem?_eq_none (by rw [hl]; omega)]
/-- one cell is written: an object's number -/
theorem wl_put {G : Gm} {σ : Sto} {κ j l f : Nat} {v : Int32} {e : va_E} (hk : okt κ j l) (hκ : κ < 11) (hf : 16 * κ ≤ f ∧ f < 16 * κ + 16) (he : e = cE G (up σ f j l v) κ j l) : (wl G σ).set (off κ j l) (ad G κ j l, e) = wl G (up σ f j l v) := by
  refine wl_set hk he fun t ht hn => ?_
  obtain ⟨o1, o2, o3, o4⟩ := off_tok t ht
  refine cE_congr o2 (fun hk2 k hk3 => ?_) (fun hk2 => funext fun i => ?_) (fun _ _ _ => rfl) (fun _ _ _ => rfl)
  · show (if _ then _ else _) = _
    rw [if_neg]
    rintro ⟨a, b, c⟩
    exact hn (by rw [← b, ← c, show κ = (tok t).1 by omega])
  · show (if _ then _ else _) = _
    rw [if_neg]
    rintro ⟨a, b, c⟩
    omega
/-- one cell is written: an array's number -/
theorem wl_puta {G : Gm} {σ : Sto} {κ j f i : Nat} {v : Int32} {e : va_E} (hk : okt κ j 0) (hκ : 11 ≤ κ) (hf : f = 16 * κ) (he : e = cE G (up σ f j i v) κ j 0) : (wl G σ).set (off κ j 0) (ad G κ j 0, e) = wl G (up σ f j i v) := by
  refine wl_set hk he fun t ht hn => ?_
  obtain ⟨o1, o2, o3, o4⟩ := off_tok t ht
  refine cE_congr o2 (fun hk2 k hk3 => ?_) (fun hk2 => funext fun x => ?_) (fun _ _ _ => rfl) (fun _ _ _ => rfl)
  · show (if _ then _ else _) = _
    rw [if_neg]
    rintro ⟨a, b, c⟩
    omega
  · show (if _ then _ else _) = _
    rw [if_neg]
    rintro ⟨a, b, c⟩
    have hκ' : (tok t).1 = κ := by omega
    have hl : (tok t).2.2 < 1 := by
      have : cl (tok t).1 = 1 := by
        rw [hκ']
        rcases (show κ = 11 ∨ κ = 12 ∨ κ = 13 ∨ κ = 14 ∨ κ = 15 ∨ κ = 16 ∨ κ = 17 ∨ κ = 18 ∨ κ = 19 ∨ κ = 20 ∨ κ = 21 ∨ κ = 22 ∨ κ = 23 ∨ κ = 24 ∨ κ = 25 ∨ κ = 26 by have := hk.1; omega) with rfl | rfl | rfl | rfl | rfl | rfl | rfl | rfl | rfl | rfl | rfl | rfl | rfl | rfl | rfl | rfl <;> rfl
      omega
    have hl0 : (tok t).2.2 = 0 := by omega
    exact hn (by rw [← hκ', ← b, ← hl0])
/-- one cell is written: a place of the row of states -/
theorem wl_putH {G : Gm} {σ : Sto} {i m : Nat} {e : va_E} (he : e = cE G (upH σ i m) 15 0 0) : (wl G σ).set (off 15 0 0) (ad G 15 0 0, e) = wl G (upH σ i m) := by
  refine wl_set (by unfold okt; decide) he fun t ht hn => ?_
  obtain ⟨o1, o2, o3, o4⟩ := off_tok t ht
  have hne15 : (tok t).1 ≠ 15 := by
    intro e
    rw [e] at o3 o4
    have a : (tok t).2.1 < 1 := o3
    have b : (tok t).2.2 < 1 := o4
    exact hn (Prod.ext e (Prod.ext (Nat.lt_one_iff.mp a) (Nat.lt_one_iff.mp b)))
  exact cE_congr o2 (fun _ _ _ => rfl) (fun _ => rfl) (fun z => absurd z hne15) (fun z => absurd z hne15)
/-- the heap holds the store -/
def Rep (G : Gm) (σ : Sto) (H : Heap) : Prop := va_P G.2.2.1 clz (wl G σ) H ∧ ∀ i, σ.2 i < 7
end
section
/-! THE JUDGEMENT V: a walk over stores; a row an instruction -/
def wsA : List Cond := lw_tbl.filter goodWord
theorem wA {w : Cond} (k : Nat) (h : lw_tbl[k]? = some w) (hg : goodWord w = true) : w ∈ wsA := List.mem_filter.mpr ⟨List.mem_of_getElem? h, hg⟩
theorem wsA_good {w : Cond} (h : w ∈ wsA) : (w.onTables && w.keeps) = true ∨ ∃ ty, w = .arrayClass ty := good_of_word (List.mem_filter.mp h).2
def nsM : List (String × Nat × MethodName × String) := [("PeerNotes", 42, ⟨"PeerNotes$Parts", "<init>", "()V"⟩, "PeerNotes"), ("PeerNotes", 49, ⟨"PeerNotes$Payout", "<init>", "()V"⟩, "PeerNotes"), ("PeerNotes$FundingText", 28, ⟨"PeerNotes$Funding", "<init>", "()V"⟩, "PeerNotes"), ("PeerNotes$Loan", 45, ⟨"PeerNotes", "dividedUp", "(II)I"⟩, "PeerNotes"), ("PeerNotes$Market", 104, ⟨"PeerNotes", "isServicer", "(I)Z"⟩, "PeerNotes"), ("PeerNotes$Market", 55, ⟨"PeerNotes$Investor", "<init>", "()V"⟩, "PeerNotes"), ("PeerNotes$Market", 56, ⟨"PeerNotes$Loan", "<init>", "()V"⟩, "PeerNotes"), ("PeerNotes$Market", 57, ⟨"PeerNotes$Note", "<init>", "()V"⟩, "PeerNotes"), ("PeerNotes$Parts", 25, ⟨"PeerNotes", "feeOf", "(I)I"⟩, "PeerNotes")]
/-- links within the nest -/
def NW (U : State) : Prop := va_Nw (.fieldLinkNest "PeerNotes$Market" 29 "PeerNotes" "FEES" "[I" "PeerNotes") U ∧ ∀ q ∈ nsM, va_Nw (.methodLinkNest q.1 q.2.1 q.2.2.1 q.2.2.2) U
theorem NW.warm {s U : State} (hW : s.WarmedH U.vm) (h : NW s) : NW U := ⟨va_Nw.warmF hW h.1, fun q hq => va_Nw.warmM hW (h.2 q hq)⟩
theorem NW.same {s U : State} (hW : s.vm = U.vm) (h : NW s) : NW U := ⟨va_Nw.same rfl hW h.1, fun q hq => va_Nw.same rfl hW (h.2 q hq)⟩
def feeI : Nat → Int32 := fun k => match k with
  | 0 => 5 | 1 => 10 | 2 => 20 | _ => 40
def feeV : Nat → Value := fun k => .int (feeI k)
def Wt (G : Gm) (U : State) : Prop := va_K G.2.2.1 clz (tysG G) U ∧ NW U
def Wf (G : Gm) (U : State) (H : Heap) : Prop := va_Z "PeerNotes" "FEES" "[I" (.ref G.2.1) (AG G) U H ∧ va_T .int G.2.1 4 feeV (AG G) U H
/-- the world at a state -/
def Wd (G : Gm) (σ : Sto) (U : State) : Prop := Rep G σ U.heap ∧ Wt G U ∧ Wf G U U.heap
theorem Wt.warm {G : Gm} {s U : State} (hW : s.WarmedH U.vm) (h : Wt G s) : Wt G U := ⟨va_K.moved hW.alike h.1, h.2.warm hW⟩
theorem Wf.kept {G : Gm} {U : State} {H H1 : Heap} (h : Wf G U H) (hq : ∀ a : Nat, a < H.size → ¬ AG G a → H1[a]? = H[a]?) : Wf G U H1 := ⟨h.1.kept hq, h.2.kept hq⟩
theorem Wf.alike {G : Gm} {s U : State} {H : Heap} (hW : s.vm.Alike U.vm) (h : Wf G s H) : Wf G U H := ⟨h.1.moved hW, h.2.moved hW⟩
theorem Wd.blind {G : Gm} {σ : Sto} {U : State} (g : JFrame) (mk : MethodId) (a : Array Value) (h : Wd G σ U) : Wd G σ (U.calling g mk a) :=
  ⟨h.1, ⟨va_K.moved (u := U) (U := U.calling g mk a) (Vm.Alike.refl U.vm) h.2.1.1, h.2.1.2.same rfl⟩, h.2.2.alike (U := U.calling g mk a) (Vm.Alike.refl U.vm)⟩
/-! locals as a list: what is known of each -/
def asc : Nat → List (Option Value) → List (Nat × Value)
  | _, [] => []
  | i, none :: r => asc (i + 1) r
  | i, some v :: r => (i, v) :: asc (i + 1) r
theorem asc_mem (r : List (Option Value)) : ∀ (i k : Nat) (w : Value), (k, w) ∈ asc i r ↔ i ≤ k ∧ r[k - i]? = some (some w) := by
  induction r with
  | nil => intro i k w; simp [asc]
  | cons a r ih =>
    intro i k w
    have key : (k, w) ∈ asc (i + 1) r ↔ i + 1 ≤ k ∧ (a :: r)[k - i]? = some (some w) := by
      rw [ih (i + 1) k w]
      refine and_congr_right fun h => ?_
      rw [show k - i = (k - (i + 1)) + 1 by omega, List.getElem?_cons_succ]
    have hz : i ≤ k ∧ (a :: r)[k - i]? = some (some w) ↔ (k = i ∧ a = some w) ∨ (i + 1 ≤ k ∧ (a :: r)[k - i]? = some (some w)) := by
      constructor
      · rintro ⟨h1, h2⟩
        rcases Nat.eq_or_lt_of_le h1 with e | e
        · subst e
          rw [Nat.sub_self] at h2
          exact Or.inl ⟨rfl, by simpa using h2⟩
        · exact Or.inr ⟨e, h2⟩
      · rintro (⟨rfl, rfl⟩ | ⟨h1, h2⟩)
        · exact ⟨Nat.le_refl _, by simp⟩
        · exact ⟨by omega, h2⟩
    rw [hz]
    cases a with
    | none => simp only [asc, key]; simp
    | some v =>
      simp only [asc, List.mem_cons, key, Prod.mk.injEq]
      constructor
      · rintro (⟨rfl, rfl⟩ | h)
        · exact Or.inl ⟨rfl, rfl⟩
        · exact Or.inr h
      · rintro (⟨rfl, h⟩ | h)
        · exact Or.inl ⟨rfl, (Option.some.inj h).symm⟩
        · exact Or.inr h
def lcok (ls : Array Slot) (lc : List (Option Value)) : Prop := lv_has ls lc.length (asc 0 lc)
theorem lcok_at {ls : Array Slot} {lc : List (Option Value)} (h : lcok ls lc) {i : Nat} {v : Value} (hi : lc[i]? = some (some v)) : ls[i]? = some (.val v) := h.2.2 (i, v) ((asc_mem lc 0 i v).mpr ⟨Nat.zero_le _, hi⟩)
def kil (lc : List (Option Value)) (i : Nat) : List (Option Value) := match i with
  | 0 => lc
  | i + 1 => match lc[i]? with
    | some (some (.long _)) => lc.set i none
    | some (some (.double _)) => lc.set i none
    | _ => lc
def stv (lc : List (Option Value)) (i : Nat) (v : Value) : List (Option Value) := (kil lc i).set i (some v)
def stw (lc : List (Option Value)) (i : Nat) (v : Value) : List (Option Value) := ((kil lc i).set (i + 1) none).set i (some v)
theorem kil_len (lc : List (Option Value)) (i : Nat) : (kil lc i).length = lc.length := by
  unfold kil
  split
  · rfl
  · split <;> simp
theorem kil_at {lc : List (Option Value)} {i k : Nat} {w : Value} (h : (kil lc i)[k]? = some (some w)) : lc[k]? = some (some w) ∧ ¬ (k + 1 = i ∧ w.category = 2) := by
  unfold kil at h
  split at h
  · exact ⟨h, fun q => by omega⟩
  · rename_i i
    have aux : ∀ x : Option Value, lc[i]? = some x → (lc.set i none)[k]? = some (some w) → lc[k]? = some (some w) ∧ ¬ (k + 1 = i + 1 ∧ w.category = 2) := by
      intro x hx hk
      by_cases e : i = k
      · subst e
        rw [List.getElem?_set_self (List.getElem?_eq_some_iff.mp hx).1] at hk
        cases hk
      · rw [List.getElem?_set_ne e] at hk
        exact ⟨hk, fun q => by omega⟩
    split at h
    · rename_i hx; exact aux _ hx h
    · rename_i hx; exact aux _ hx h
    · rename_i n1 n2
      refine ⟨h, ?_⟩
      rintro ⟨e, c⟩
      have e2 : k = i := by omega
      subst e2
      cases w <;> simp [Value.category] at c
      · exact n1 _ h
      · exact n2 _ h
theorem lcok_stv {ls ls' : Array Slot} {lc : List (Option Value)} {i : Nat} {v : Value} (hi : i < lc.length) (h : lv_has ls' lc.length ((i, v) :: (asc 0 lc).filter (fun q => !(q.1 == i) && !(q.1 + 1 == i && q.2.category == 2)))) : lcok ls' (stv lc i v) := by
  refine ⟨by rw [h.1, stv, List.length_set, kil_len], h.2.1, fun q hq => h.2.2 q ?_⟩
  obtain ⟨k, w⟩ := q
  have hk := ((asc_mem _ 0 k w).mp hq).2
  rw [Nat.sub_zero, stv] at hk
  by_cases e : i = k
  · subst e
    rw [List.getElem?_set_self (by rw [kil_len]; exact hi)] at hk
    cases hk
    exact List.mem_cons_self
  · rw [List.getElem?_set_ne e] at hk
    obtain ⟨h1, h2⟩ := kil_at hk
    refine List.mem_cons_of_mem _ (List.mem_filter.mpr ⟨(asc_mem lc 0 k w).mpr ⟨Nat.zero_le _, h1⟩, ?_⟩)
    have e1 : (k == i) = false := by simpa using fun q => e q.symm
    have e2 : (k + 1 == i && w.category == 2) = false := by
      rw [Bool.eq_false_iff]
      intro q
      rw [Bool.and_eq_true, beq_iff_eq, beq_iff_eq] at q
      exact h2 q
    show (!(k == i) && !(k + 1 == i && w.category == 2)) = true
    rw [e1, e2]
    rfl
theorem lcok_stw {ls ls' : Array Slot} {lc : List (Option Value)} {i : Nat} {v : Value} (hi : i + 1 < lc.length) (h : lv_has ls' lc.length ((i, v) :: (asc 0 lc).filter (fun q => !(q.1 == i) && (!(q.1 == i + 1) && !(q.1 + 1 == i && q.2.category == 2))))) : lcok ls' (stw lc i v) := by
  refine ⟨by rw [h.1, stw, List.length_set, List.length_set, kil_len], h.2.1, fun q hq => h.2.2 q ?_⟩
  obtain ⟨k, w⟩ := q
  have hk := ((asc_mem _ 0 k w).mp hq).2
  rw [Nat.sub_zero, stw] at hk
  by_cases e : i = k
  · subst e
    rw [List.getElem?_set_self (by rw [List.length_set, kil_len]; omega)] at hk
    cases hk
    exact List.mem_cons_self
  · rw [List.getElem?_set_ne e] at hk
    by_cases e3 : i + 1 = k
    · subst e3
      rw [List.getElem?_set_self (by rw [kil_len]; omega)] at hk
      cases hk
    rw [List.getElem?_set_ne e3] at hk
    obtain ⟨h1, h2⟩ := kil_at hk
    refine List.mem_cons_of_mem _ (List.mem_filter.mpr ⟨(asc_mem lc 0 k w).mpr ⟨Nat.zero_le _, h1⟩, ?_⟩)
    have e1 : (k == i) = false := by simpa using fun q => e q.symm
    have e4 : (k == i + 1) = false := by simpa using fun q => e3 q.symm
    have e2 : (k + 1 == i && w.category == 2) = false := by
      rw [Bool.eq_false_iff]
      intro q
      rw [Bool.and_eq_true, beq_iff_eq, beq_iff_eq] at q
      exact h2 q
    show (!(k == i) && (!(k == i + 1) && !(k + 1 == i && w.category == 2))) = true
    rw [e1, e2, e4]
    rfl
/-- fewer known locals -/
def mask : List Bool → List (Option Value) → List (Option Value)
  | b :: bs, a :: as => (if b then a else none) :: mask bs as
  | [], as => as.map fun _ => none
  | _, [] => []
theorem mask_at (bs : List Bool) : ∀ (as : List (Option Value)), (mask bs as).length = as.length ∧ ∀ (k : Nat) (w : Value), (mask bs as)[k]? = some (some w) → as[k]? = some (some w) := by
  induction bs with
  | nil =>
    intro as
    have e : mask [] as = as.map fun _ => none := by cases as <;> rfl
    rw [e]
    refine ⟨by simp, fun k w h => ?_⟩
    rw [List.getElem?_map] at h
    rcases hx : as[k]? with _ | z <;> rw [hx] at h <;> simp at h
  | cons b bs ih =>
    intro as
    cases as with
    | nil => exact ⟨rfl, fun k w h => by simp [mask] at h⟩
    | cons a as =>
      refine ⟨by simp [mask, (ih as).1], fun k w h => ?_⟩
      cases k with
      | zero =>
        cases b
        · simp [mask] at h
        · simpa [mask] using h
      | succ k =>
        rw [mask, List.getElem?_cons_succ] at h
        rw [List.getElem?_cons_succ]
        exact (ih as).2 k w h
theorem lcok_mask {ls : Array Slot} {lc : List (Option Value)} (bs : List Bool) (h : lcok ls lc) : lcok ls (mask bs lc) := by
  refine ⟨by rw [h.1, (mask_at bs lc).1], h.2.1, fun q hq => ?_⟩
  obtain ⟨k, w⟩ := q
  have hk := ((asc_mem _ 0 k w).mp hq).2
  rw [Nat.sub_zero] at hk
  exact lcok_at h ((mask_at bs lc).2 k w hk)
/-! the judgement -/
abbrev Cx : Type := Program × Launch × Env × Room × State × MethodId × Array Value × List Frame × Method × Code
abbrev cxS (X : Cx) : State := X.2.2.2.2.1
abbrev cxR (X : Cx) : Room := X.2.2.2.1
abbrev cxM (X : Cx) : MethodId := X.2.2.2.2.2.1
abbrev cxA (X : Cx) : Array Value := X.2.2.2.2.2.2.1
abbrev cxC (X : Cx) : Code := X.2.2.2.2.2.2.2.2.2
abbrev cxN (X : Cx) : Method := X.2.2.2.2.2.2.2.2.1
abbrev WX (X : Cx) (H : Heap) (locs : List Loc) (mc ms : Nat) (Q : State → Prop) (g : JFrame) : Prop := W X.1 X.2.1 X.2.2.1 X.2.2.2.1 X.2.2.2.2.1 X.2.2.2.2.2.1 X.2.2.2.2.2.2.1 X.2.2.2.2.2.2.2.1 X.2.2.2.2.2.2.2.2.1 X.2.2.2.2.2.2.2.2.2 H locs mc ms Q g
def V (X : Cx) (G : Gm) (mc ms : Nat) (Q : State → Prop) (σ : Sto) (pc : Nat) (lc : List (Option Value)) (st : List Value) : Prop :=
  ∀ (H : Heap) (locs : List Loc) (ls : Array Slot), Rep G σ H → va_S (AG G) (cxS X).heap H locs → lcok ls lc → WX X H locs mc ms Q (F0 (cxM X) pc ls st)
/-- what holds all over a method's walk: the code, the class, the locals' number, the depth d of calls left, what it returns -/
def Gd (X : Cx) (G : Gm) (cc : ByteArray) (own : String) (nL d : Nat) (ret : Option FieldType) (mc ms : Nat) : Prop :=
  X.1.tables.exec = Jvm.exec ∧ (cxC X).code = cc ∧ (cxC X).maxLocals = nL ∧ (cxS X).vm.findClass own = some (cxM X).cls ∧ (∀ w ∈ wsA, w.before (cxA X) (cxS X) = true) ∧ Wt G (cxS X) ∧ Wf G (cxS X) (cxS X).heap ∧ d ≤ (cxR X).frames ∧ 29 * d ≤ (cxR X).locals ∧ mc ≤ (cxR X).cells ∧ ms ≤ (cxR X).slots ∧ (cxN X).sig.returnType = ret ∧ (cxN X).locks = false
section V1
variable {X : Cx} {G : Gm} {mc ms : Nat} {Q : State → Prop} {σ : Sto} {pc : Nat} {lc : List (Option Value)} {st : List Value} {cc : ByteArray} {own : String} {nL d : Nat} {ret : Option FieldType}
abbrev inb (i : Int32) (n : Nat) : Prop := 0 ≤ i.toInt ∧ i.toInt < (n : Int)
def jn {α β : Type} (f : α) (g : α → β) : β := g f
def bd {α : Type} (f : Option (Int32 × Sto)) (k : Int32 → Sto → Option α) : Option α := match f with
  | none => none
  | some (r, σ) => k r σ
def bv {α : Type} (f : Option Sto) (k : Sto → Option α) : Option α := match f with
  | none => none
  | some σ => k σ
theorem bd_some {α : Type} {f : Option (Int32 × Sto)} {k : Int32 → Sto → Option α} {x : α} (h : bd f k = some x) : ∃ r σ, f = some (r, σ) ∧ k r σ = some x := by
  cases f with
  | none => cases h
  | some q => exact ⟨q.1, q.2, rfl, h⟩
theorem bv_some {α : Type} {f : Option Sto} {k : Sto → Option α} {x : α} (h : bv f k = some x) : ∃ σ, f = some σ ∧ k σ = some x := by
  cases f with
  | none => cases h
  | some q => exact ⟨q, rfl, h⟩
theorem if_some {α : Type} {p : Prop} [Decidable p] {a : Option α} {x : α} (h : (if p then a else none) = some x) : p ∧ a = some x := by
  by_cases hp : p
  · rw [if_pos hp] at h; exact ⟨hp, h⟩
  · rw [if_neg hp] at h; cases h
theorem v_mask (bs : List Bool) {lc' : List (Option Value)} (e : mask bs lc = lc') (kk : V X G mc ms Q σ pc lc' st) : V X G mc ms Q σ pc lc st := fun H locs ls hR hS hl => kk H locs ls hR hS (e ▸ lcok_mask bs hl)
theorem v_join {α R : Type} {f : α} {g : α → Option R} {res : R} {T : Prop} (P : α → Prop) (h : jn f g = some res) (h1 : P f) (h2 : ∀ k, P k → g k = some res → T) : T := h2 f h1 h

theorem v_iconst (C : Gd X G cc own nL d ret mc ms) {n : Int} {v : Int32} (hd : decode cc pc = .ok (.iconst n, 1)) (hv : Int32.ofInt n = v) (kk : V X G mc ms Q σ (pc + 1) lc (.int v :: st)) : V X G mc ms Q σ pc lc (st) := fun H locs ls hR hS hl => lv_iconst C.1 C.2.1 hd hv (kk H locs ls hR hS hl)
theorem v_bipush (C : Gd X G cc own nL d ret mc ms) {n : Int} {v : Int32} (hd : decode cc pc = .ok (.bipush n, 2)) (hv : (Int8.ofInt n).toInt32 = v) (kk : V X G mc ms Q σ (pc + 2) lc (.int v :: st)) : V X G mc ms Q σ pc lc (st) := fun H locs ls hR hS hl => lv_bipush C.1 C.2.1 hd hv (kk H locs ls hR hS hl)
theorem v_sipush (C : Gd X G cc own nL d ret mc ms) {n : Int} {v : Int32} (hd : decode cc pc = .ok (.sipush n, 3)) (hv : (Int16.ofInt n).toInt32 = v) (kk : V X G mc ms Q σ (pc + 3) lc (.int v :: st)) : V X G mc ms Q σ pc lc (st) := fun H locs ls hR hS hl => lv_sipush C.1 C.2.1 hd hv (kk H locs ls hR hS hl)
theorem v_lconst (C : Gd X G cc own nL d ret mc ms) {n : Fin 2} {v : Int64} (hd : decode cc pc = .ok (.lconst n, 1)) (hv : Int64.ofNat (n : Nat) = v) (kk : V X G mc ms Q σ (pc + 1) lc (.long v :: st)) : V X G mc ms Q σ pc lc (st) := fun H locs ls hR hS hl => lv_lconst C.1 C.2.1 hd hv (kk H locs ls hR hS hl)
theorem v_ldc (C : Gd X G cc own nL d ret mc ms) {index : Nat} {v : Int32} (hd : decode cc pc = .ok (.ldc index, 2)) (hw : Cond.constant own index v ∈ wsA) (kk : V X G mc ms Q σ (pc + 2) lc (.int v :: st)) : V X G mc ms Q σ pc lc st := fun H locs ls hR hS hl => lv_ldc C.1 C.2.1 C.2.2.2.1 (C.2.2.2.2.1 _ hw) hd (kk H locs ls hR hS hl)
theorem v_ldcw (C : Gd X G cc own nL d ret mc ms) {index : Nat} {v : Int32} (hd : decode cc pc = .ok (.ldc_w index, 3)) (hw : Cond.constant own index v ∈ wsA) (kk : V X G mc ms Q σ (pc + 3) lc (.int v :: st)) : V X G mc ms Q σ pc lc st := fun H locs ls hR hS hl => lv_ldcw C.1 C.2.1 C.2.2.2.1 (C.2.2.2.2.1 _ hw) hd (kk H locs ls hR hS hl)
theorem v_ldc2 (C : Gd X G cc own nL d ret mc ms) {index : Nat} {v : Int64} (hd : decode cc pc = .ok (.ldc2_w index, 3)) (hw : Cond.constantLong own index v ∈ wsA) (kk : V X G mc ms Q σ (pc + 3) lc (.long v :: st)) : V X G mc ms Q σ pc lc st := fun H locs ls hR hS hl => lv_ldc2 C.1 C.2.1 C.2.2.2.1 (C.2.2.2.2.1 _ hw) hd (kk H locs ls hR hS hl)
theorem v_iload_n (C : Gd X G cc own nL d ret mc ms) {k : Fin 4} {i : Nat} {x : Int32} (hd : decode cc pc = .ok (.iload_n k, 1)) (hi : (k : Nat) = i) (hl : lc[i]? = some (some (.int x))) (kk : V X G mc ms Q σ (pc + 1) lc (.int x :: st)) : V X G mc ms Q σ pc lc st := fun H locs ls hR hS h => lv_iload_n C.1 C.2.1 hd hi (lcok_at h hl) (kk H locs ls hR hS h)
theorem v_iload (C : Gd X G cc own nL d ret mc ms) {i : Nat} {x : Int32} (hd : decode cc pc = .ok (.iload i, 2)) (hl : lc[i]? = some (some (.int x))) (kk : V X G mc ms Q σ (pc + 2) lc (.int x :: st)) : V X G mc ms Q σ pc lc st := fun H locs ls hR hS h => lv_iload C.1 C.2.1 hd (lcok_at h hl) (kk H locs ls hR hS h)
theorem v_istore_n (C : Gd X G cc own nL d ret mc ms) {k : Fin 4} {i : Nat} {x : Int32} {lc1 : List (Option Value)} (hd : decode cc pc = .ok (.istore_n k, 1)) (hi : (k : Nat) = i) (hlt : i < lc.length) (e : stv lc i (.int x) = lc1) (kk : V X G mc ms Q σ (pc + 1) lc1 st) : V X G mc ms Q σ pc lc (.int x :: st) := fun H locs ls hR hS h => lv_istore_n C.1 C.2.1 hd hi h hlt rfl (fun ls1 h1 => kk H locs ls1 hR hS (e ▸ lcok_stv (ls := ls) hlt h1))
theorem v_istore (C : Gd X G cc own nL d ret mc ms) {i : Nat} {x : Int32} {lc1 : List (Option Value)} (hd : decode cc pc = .ok (.istore i, 2)) (hlt : i < lc.length) (e : stv lc i (.int x) = lc1) (kk : V X G mc ms Q σ (pc + 2) lc1 st) : V X G mc ms Q σ pc lc (.int x :: st) := fun H locs ls hR hS h => lv_istore C.1 C.2.1 hd h hlt rfl (fun ls1 h1 => kk H locs ls1 hR hS (e ▸ lcok_stv (ls := ls) hlt h1))
theorem v_lload_n (C : Gd X G cc own nL d ret mc ms) {k : Fin 4} {i : Nat} {x : Int64} (hd : decode cc pc = .ok (.lload_n k, 1)) (hi : (k : Nat) = i) (hl : lc[i]? = some (some (.long x))) (kk : V X G mc ms Q σ (pc + 1) lc (.long x :: st)) : V X G mc ms Q σ pc lc st := fun H locs ls hR hS h => lv_lload_n C.1 C.2.1 hd hi (lcok_at h hl) (kk H locs ls hR hS h)
theorem v_lload (C : Gd X G cc own nL d ret mc ms) {i : Nat} {x : Int64} (hd : decode cc pc = .ok (.lload i, 2)) (hl : lc[i]? = some (some (.long x))) (kk : V X G mc ms Q σ (pc + 2) lc (.long x :: st)) : V X G mc ms Q σ pc lc st := fun H locs ls hR hS h => lv_lload C.1 C.2.1 hd (lcok_at h hl) (kk H locs ls hR hS h)
theorem v_lstore_n (C : Gd X G cc own nL d ret mc ms) {k : Fin 4} {i : Nat} {x : Int64} {lc1 : List (Option Value)} (hd : decode cc pc = .ok (.lstore_n k, 1)) (hi : (k : Nat) = i) (hlt : i + 1 < lc.length) (e : stw lc i (.long x) = lc1) (kk : V X G mc ms Q σ (pc + 1) lc1 st) : V X G mc ms Q σ pc lc (.long x :: st) := fun H locs ls hR hS h => lv_lstore_n C.1 C.2.1 hd hi h hlt rfl (fun ls1 h1 => kk H locs ls1 hR hS (e ▸ lcok_stw (ls := ls) hlt h1))
theorem v_lstore (C : Gd X G cc own nL d ret mc ms) {i : Nat} {x : Int64} {lc1 : List (Option Value)} (hd : decode cc pc = .ok (.lstore i, 2)) (hlt : i + 1 < lc.length) (e : stw lc i (.long x) = lc1) (kk : V X G mc ms Q σ (pc + 2) lc1 st) : V X G mc ms Q σ pc lc (.long x :: st) := fun H locs ls hR hS h => lv_lstore C.1 C.2.1 hd h hlt rfl (fun ls1 h1 => kk H locs ls1 hR hS (e ▸ lcok_stw (ls := ls) hlt h1))
theorem v_aload_n (C : Gd X G cc own nL d ret mc ms) {k : Fin 4} {i : Nat} {x : Nat} (hd : decode cc pc = .ok (.aload_n k, 1)) (hi : (k : Nat) = i) (hl : lc[i]? = some (some (.ref x))) (kk : V X G mc ms Q σ (pc + 1) lc (.ref x :: st)) : V X G mc ms Q σ pc lc st := fun H locs ls hR hS h => lv_aload_n C.1 C.2.1 hd hi (lcok_at h hl) (kk H locs ls hR hS h)
theorem v_aload (C : Gd X G cc own nL d ret mc ms) {i : Nat} {x : Nat} (hd : decode cc pc = .ok (.aload i, 2)) (hl : lc[i]? = some (some (.ref x))) (kk : V X G mc ms Q σ (pc + 2) lc (.ref x :: st)) : V X G mc ms Q σ pc lc st := fun H locs ls hR hS h => lv_aload C.1 C.2.1 hd (lcok_at h hl) (kk H locs ls hR hS h)
theorem v_astore_n (C : Gd X G cc own nL d ret mc ms) {k : Fin 4} {i : Nat} {x : Nat} {lc1 : List (Option Value)} (hd : decode cc pc = .ok (.astore_n k, 1)) (hi : (k : Nat) = i) (hlt : i < lc.length) (e : stv lc i (.ref x) = lc1) (kk : V X G mc ms Q σ (pc + 1) lc1 st) : V X G mc ms Q σ pc lc (.ref x :: st) := fun H locs ls hR hS h => lv_astore_n C.1 C.2.1 hd hi h hlt rfl (fun ls1 h1 => kk H locs ls1 hR hS (e ▸ lcok_stv (ls := ls) hlt h1))
theorem v_astore (C : Gd X G cc own nL d ret mc ms) {i : Nat} {x : Nat} {lc1 : List (Option Value)} (hd : decode cc pc = .ok (.astore i, 2)) (hlt : i < lc.length) (e : stv lc i (.ref x) = lc1) (kk : V X G mc ms Q σ (pc + 2) lc1 st) : V X G mc ms Q σ pc lc (.ref x :: st) := fun H locs ls hR hS h => lv_astore C.1 C.2.1 hd h hlt rfl (fun ls1 h1 => kk H locs ls1 hR hS (e ▸ lcok_stv (ls := ls) hlt h1))
theorem v_iinc (C : Gd X G cc own nL d ret mc ms) {i : Nat} {n : Int} {x v : Int32} {lc1 : List (Option Value)} (hd : decode cc pc = .ok (.iinc i n, 3)) (hl : lc[i]? = some (some (.int x))) (hv : x + Int32.ofInt n = v) (e : stv lc i (.int v) = lc1) (kk : V X G mc ms Q σ (pc + 3) lc1 st) : V X G mc ms Q σ pc lc st := by
  intro H locs ls hR hS h
  obtain ⟨k, hk⟩ := List.getElem?_of_mem ((asc_mem lc 0 i _).mpr ⟨Nat.zero_le _, hl⟩)
  have hlt : i < lc.length := (List.getElem?_eq_some_iff.mp hl).1
  exact lv_iinc C.1 C.2.1 hd h hk hv hlt rfl (fun ls1 h1 => kk H locs ls1 hR hS (e ▸ lcok_stv (ls := ls) hlt h1))
theorem v_iadd (C : Gd X G cc own nL d ret mc ms) {x y : Int32} (hd : decode cc pc = .ok (.iadd, 1))  (kk : V X G mc ms Q σ (pc + 1) lc (.int (x + y) :: st)) : V X G mc ms Q σ pc lc (.int y :: .int x :: st) := fun H locs ls hR hS hl => lv_iadd C.1 C.2.1 hd  (kk H locs ls hR hS hl)
theorem v_isub (C : Gd X G cc own nL d ret mc ms) {x y : Int32} (hd : decode cc pc = .ok (.isub, 1))  (kk : V X G mc ms Q σ (pc + 1) lc (.int (x - y) :: st)) : V X G mc ms Q σ pc lc (.int y :: .int x :: st) := fun H locs ls hR hS hl => lv_isub C.1 C.2.1 hd  (kk H locs ls hR hS hl)
theorem v_imul (C : Gd X G cc own nL d ret mc ms) {x y : Int32} (hd : decode cc pc = .ok (.imul, 1))  (kk : V X G mc ms Q σ (pc + 1) lc (.int (x * y) :: st)) : V X G mc ms Q σ pc lc (.int y :: .int x :: st) := fun H locs ls hR hS hl => lv_imul C.1 C.2.1 hd  (kk H locs ls hR hS hl)
theorem v_iand (C : Gd X G cc own nL d ret mc ms) {x y : Int32} (hd : decode cc pc = .ok (.iand, 1))  (kk : V X G mc ms Q σ (pc + 1) lc (.int (x &&& y) :: st)) : V X G mc ms Q σ pc lc (.int y :: .int x :: st) := fun H locs ls hR hS hl => lv_iand C.1 C.2.1 hd  (kk H locs ls hR hS hl)
theorem v_ior (C : Gd X G cc own nL d ret mc ms) {x y : Int32} (hd : decode cc pc = .ok (.ior, 1))  (kk : V X G mc ms Q σ (pc + 1) lc (.int (x ||| y) :: st)) : V X G mc ms Q σ pc lc (.int y :: .int x :: st) := fun H locs ls hR hS hl => lv_ior C.1 C.2.1 hd  (kk H locs ls hR hS hl)
theorem v_ishl (C : Gd X G cc own nL d ret mc ms) {x y : Int32} (hd : decode cc pc = .ok (.ishl, 1))  (kk : V X G mc ms Q σ (pc + 1) lc (.int (x <<< (y &&& 31)) :: st)) : V X G mc ms Q σ pc lc (.int y :: .int x :: st) := fun H locs ls hR hS hl => lv_ishl C.1 C.2.1 hd  (kk H locs ls hR hS hl)
theorem v_ladd (C : Gd X G cc own nL d ret mc ms) {x y : Int64} (hd : decode cc pc = .ok (.ladd, 1))  (kk : V X G mc ms Q σ (pc + 1) lc (.long (x + y) :: st)) : V X G mc ms Q σ pc lc (.long y :: .long x :: st) := fun H locs ls hR hS hl => lv_ladd C.1 C.2.1 hd  (kk H locs ls hR hS hl)
theorem v_lsub (C : Gd X G cc own nL d ret mc ms) {x y : Int64} (hd : decode cc pc = .ok (.lsub, 1))  (kk : V X G mc ms Q σ (pc + 1) lc (.long (x - y) :: st)) : V X G mc ms Q σ pc lc (.long y :: .long x :: st) := fun H locs ls hR hS hl => lv_lsub C.1 C.2.1 hd  (kk H locs ls hR hS hl)
theorem v_lmul (C : Gd X G cc own nL d ret mc ms) {x y : Int64} (hd : decode cc pc = .ok (.lmul, 1))  (kk : V X G mc ms Q σ (pc + 1) lc (.long (x * y) :: st)) : V X G mc ms Q σ pc lc (.long y :: .long x :: st) := fun H locs ls hR hS hl => lv_lmul C.1 C.2.1 hd  (kk H locs ls hR hS hl)
theorem v_idiv (C : Gd X G cc own nL d ret mc ms) {x y : Int32} (hd : decode cc pc = .ok (.idiv, 1)) (hne : ¬ y = 0) (kk : V X G mc ms Q σ (pc + 1) lc (.int (x / y) :: st)) : V X G mc ms Q σ pc lc (.int y :: .int x :: st) := fun H locs ls hR hS hl => lv_idiv C.1 C.2.1 hd hne (kk H locs ls hR hS hl)
theorem v_ldiv (C : Gd X G cc own nL d ret mc ms) {x y : Int64} (hd : decode cc pc = .ok (.ldiv, 1)) (hne : ¬ y = 0) (kk : V X G mc ms Q σ (pc + 1) lc (.long (x / y) :: st)) : V X G mc ms Q σ pc lc (.long y :: .long x :: st) := fun H locs ls hR hS hl => lv_ldiv C.1 C.2.1 hd hne (kk H locs ls hR hS hl)
theorem v_ineg (C : Gd X G cc own nL d ret mc ms) {x : Int32} (hd : decode cc pc = .ok (.ineg, 1))  (kk : V X G mc ms Q σ (pc + 1) lc (.int (-x) :: st)) : V X G mc ms Q σ pc lc (.int x :: st) := fun H locs ls hR hS hl => lv_ineg C.1 C.2.1 hd  (kk H locs ls hR hS hl)
theorem v_i2l (C : Gd X G cc own nL d ret mc ms) {x : Int32} (hd : decode cc pc = .ok (.i2l, 1))  (kk : V X G mc ms Q σ (pc + 1) lc (.long x.toInt64 :: st)) : V X G mc ms Q σ pc lc (.int x :: st) := fun H locs ls hR hS hl => lv_i2l C.1 C.2.1 hd rfl (kk H locs ls hR hS hl)
theorem v_l2i (C : Gd X G cc own nL d ret mc ms) {x : Int64} (hd : decode cc pc = .ok (.l2i, 1))  (kk : V X G mc ms Q σ (pc + 1) lc (.int x.toInt32 :: st)) : V X G mc ms Q σ pc lc (.long x :: st) := fun H locs ls hR hS hl => lv_l2i C.1 C.2.1 hd rfl (kk H locs ls hR hS hl)
theorem v_i2c (C : Gd X G cc own nL d ret mc ms) {x : Int32} (hd : decode cc pc = .ok (.i2c, 1))  (kk : V X G mc ms Q σ (pc + 1) lc (.int (x.toUInt32 % 65536).toInt32 :: st)) : V X G mc ms Q σ pc lc (.int x :: st) := fun H locs ls hR hS hl => lv_i2c C.1 C.2.1 hd rfl (kk H locs ls hR hS hl)
theorem v_lcmp (C : Gd X G cc own nL d ret mc ms) {x y : Int64} (hd : decode cc pc = .ok (.lcmp, 1))  (kk : V X G mc ms Q σ (pc + 1) lc (.int (lg_cmp x y) :: st)) : V X G mc ms Q σ pc lc (.long y :: .long x :: st) := fun H locs ls hR hS hl => W.lcmp C.1 C.2.1 hd  (kk H locs ls hR hS hl)
theorem v_dup (C : Gd X G cc own nL d ret mc ms) {va : Value} (hd : decode cc pc = .ok (.dup, 1)) (h1 : va.category = 1) (kk : V X G mc ms Q σ (pc + 1) lc (va :: va :: st)) : V X G mc ms Q σ pc lc (va :: st) := fun H locs ls hR hS hl => lv_dup C.1 C.2.1 hd h1 (kk H locs ls hR hS hl)
theorem v_dup2 (C : Gd X G cc own nL d ret mc ms) {va vb : Value} (hd : decode cc pc = .ok (.dup2, 1)) (h1 : va.category = 1) (h2 : vb.category = 1) (kk : V X G mc ms Q σ (pc + 1) lc (va :: vb :: va :: vb :: st)) : V X G mc ms Q σ pc lc (va :: vb :: st) := fun H locs ls hR hS hl => lv_dup2_11 C.1 C.2.1 hd h1 h2 (kk H locs ls hR hS hl)
theorem v_pop (C : Gd X G cc own nL d ret mc ms) {va : Value} (hd : decode cc pc = .ok (.pop, 1)) (h1 : va.category = 1) (kk : V X G mc ms Q σ (pc + 1) lc (st)) : V X G mc ms Q σ pc lc (va :: st) := fun H locs ls hR hS hl => lv_pop C.1 C.2.1 hd h1 (kk H locs ls hR hS hl)
theorem v_goto (C : Gd X G cc own nL d ret mc ms) {off : Int} {tgt : Nat} (hd : decode cc pc = .ok (.goto off, 3)) (ht : (pc : Int) + off = (tgt : Int)) (kk : V X G mc ms Q σ tgt lc st) : V X G mc ms Q σ pc lc st := fun H locs ls hR hS hl => lv_goto C.1 C.2.1 hd ht (kk H locs ls hR hS hl)
theorem v_if_ne (C : Gd X G cc own nL d ret mc ms) {R : Type} {x : Int32} {off : Int} {tgt : Nat} {A B : Option R} {res : R} (hd : decode cc pc = .ok (.ifCond .ne off, 3)) (ht : (pc : Int) + off = (tgt : Int)) (h : (if x = 0 then B else A) = some res) (kt : A = some res → V X G mc ms Q σ tgt lc st) (kf : B = some res → V X G mc ms Q σ (pc + 3) lc st) : V X G mc ms Q σ pc lc (.int x :: st) := fun H locs ls hR hS hl => lv_if_ne C.1 C.2.1 hd ht (fun p => kt (by rwa [if_neg p] at h) H locs ls hR hS hl) (fun p => kf (by rwa [if_pos p] at h) H locs ls hR hS hl)
theorem v_icmp_ne (C : Gd X G cc own nL d ret mc ms) {R : Type} {x y : Int32} {off : Int} {tgt : Nat} {A B : Option R} {res : R} (hd : decode cc pc = .ok (.if_icmp .ne off, 3)) (ht : (pc : Int) + off = (tgt : Int)) (h : (if x = y then B else A) = some res) (kt : A = some res → V X G mc ms Q σ tgt lc st) (kf : B = some res → V X G mc ms Q σ (pc + 3) lc st) : V X G mc ms Q σ pc lc (.int y :: .int x :: st) := fun H locs ls hR hS hl => lv_icmp_ne C.1 C.2.1 hd ht (fun p => kt (by rwa [if_neg p] at h) H locs ls hR hS hl) (fun p => kf (by rwa [if_pos p] at h) H locs ls hR hS hl)
theorem v_if_eq (C : Gd X G cc own nL d ret mc ms) {R : Type} {x : Int32} {off : Int} {tgt : Nat} {A B : Option R} {res : R} (hd : decode cc pc = .ok (.ifCond .eq off, 3)) (ht : (pc : Int) + off = (tgt : Int)) (h : (if x = 0 then A else B) = some res) (kt : A = some res → V X G mc ms Q σ tgt lc st) (kf : B = some res → V X G mc ms Q σ (pc + 3) lc st) : V X G mc ms Q σ pc lc (.int x :: st) := fun H locs ls hR hS hl => lv_if_eq C.1 C.2.1 hd ht (fun p => kt (by rwa [if_pos p] at h) H locs ls hR hS hl) (fun p => kf (by rwa [if_neg p] at h) H locs ls hR hS hl)
theorem v_icmp_eq (C : Gd X G cc own nL d ret mc ms) {R : Type} {x y : Int32} {off : Int} {tgt : Nat} {A B : Option R} {res : R} (hd : decode cc pc = .ok (.if_icmp .eq off, 3)) (ht : (pc : Int) + off = (tgt : Int)) (h : (if x = y then A else B) = some res) (kt : A = some res → V X G mc ms Q σ tgt lc st) (kf : B = some res → V X G mc ms Q σ (pc + 3) lc st) : V X G mc ms Q σ pc lc (.int y :: .int x :: st) := fun H locs ls hR hS hl => lv_icmp_eq C.1 C.2.1 hd ht (fun p => kt (by rwa [if_pos p] at h) H locs ls hR hS hl) (fun p => kf (by rwa [if_neg p] at h) H locs ls hR hS hl)
theorem v_if_lt (C : Gd X G cc own nL d ret mc ms) {R : Type} {x : Int32} {off : Int} {tgt : Nat} {A B : Option R} {res : R} (hd : decode cc pc = .ok (.ifCond .lt off, 3)) (ht : (pc : Int) + off = (tgt : Int)) (h : (if x < 0 then A else B) = some res) (kt : A = some res → V X G mc ms Q σ tgt lc st) (kf : B = some res → V X G mc ms Q σ (pc + 3) lc st) : V X G mc ms Q σ pc lc (.int x :: st) := fun H locs ls hR hS hl => lv_if_lt C.1 C.2.1 hd ht (fun p => kt (by rwa [if_pos p] at h) H locs ls hR hS hl) (fun p => kf (by rwa [if_neg p] at h) H locs ls hR hS hl)
theorem v_icmp_lt (C : Gd X G cc own nL d ret mc ms) {R : Type} {x y : Int32} {off : Int} {tgt : Nat} {A B : Option R} {res : R} (hd : decode cc pc = .ok (.if_icmp .lt off, 3)) (ht : (pc : Int) + off = (tgt : Int)) (h : (if x < y then A else B) = some res) (kt : A = some res → V X G mc ms Q σ tgt lc st) (kf : B = some res → V X G mc ms Q σ (pc + 3) lc st) : V X G mc ms Q σ pc lc (.int y :: .int x :: st) := fun H locs ls hR hS hl => lv_icmp_lt C.1 C.2.1 hd ht (fun p => kt (by rwa [if_pos p] at h) H locs ls hR hS hl) (fun p => kf (by rwa [if_neg p] at h) H locs ls hR hS hl)
theorem v_if_ge (C : Gd X G cc own nL d ret mc ms) {R : Type} {x : Int32} {off : Int} {tgt : Nat} {A B : Option R} {res : R} (hd : decode cc pc = .ok (.ifCond .ge off, 3)) (ht : (pc : Int) + off = (tgt : Int)) (h : (if 0 ≤ x then A else B) = some res) (kt : A = some res → V X G mc ms Q σ tgt lc st) (kf : B = some res → V X G mc ms Q σ (pc + 3) lc st) : V X G mc ms Q σ pc lc (.int x :: st) := fun H locs ls hR hS hl => lv_if_ge C.1 C.2.1 hd ht (fun p => kt (by rwa [if_pos p] at h) H locs ls hR hS hl) (fun p => kf (by rwa [if_neg p] at h) H locs ls hR hS hl)
theorem v_icmp_ge (C : Gd X G cc own nL d ret mc ms) {R : Type} {x y : Int32} {off : Int} {tgt : Nat} {A B : Option R} {res : R} (hd : decode cc pc = .ok (.if_icmp .ge off, 3)) (ht : (pc : Int) + off = (tgt : Int)) (h : (if y ≤ x then A else B) = some res) (kt : A = some res → V X G mc ms Q σ tgt lc st) (kf : B = some res → V X G mc ms Q σ (pc + 3) lc st) : V X G mc ms Q σ pc lc (.int y :: .int x :: st) := fun H locs ls hR hS hl => lv_icmp_ge C.1 C.2.1 hd ht (fun p => kt (by rwa [if_pos p] at h) H locs ls hR hS hl) (fun p => kf (by rwa [if_neg p] at h) H locs ls hR hS hl)
theorem v_if_gt (C : Gd X G cc own nL d ret mc ms) {R : Type} {x : Int32} {off : Int} {tgt : Nat} {A B : Option R} {res : R} (hd : decode cc pc = .ok (.ifCond .gt off, 3)) (ht : (pc : Int) + off = (tgt : Int)) (h : (if 0 < x then A else B) = some res) (kt : A = some res → V X G mc ms Q σ tgt lc st) (kf : B = some res → V X G mc ms Q σ (pc + 3) lc st) : V X G mc ms Q σ pc lc (.int x :: st) := fun H locs ls hR hS hl => lv_if_gt C.1 C.2.1 hd ht (fun p => kt (by rwa [if_pos p] at h) H locs ls hR hS hl) (fun p => kf (by rwa [if_neg p] at h) H locs ls hR hS hl)
theorem v_icmp_gt (C : Gd X G cc own nL d ret mc ms) {R : Type} {x y : Int32} {off : Int} {tgt : Nat} {A B : Option R} {res : R} (hd : decode cc pc = .ok (.if_icmp .gt off, 3)) (ht : (pc : Int) + off = (tgt : Int)) (h : (if y < x then A else B) = some res) (kt : A = some res → V X G mc ms Q σ tgt lc st) (kf : B = some res → V X G mc ms Q σ (pc + 3) lc st) : V X G mc ms Q σ pc lc (.int y :: .int x :: st) := fun H locs ls hR hS hl => lv_icmp_gt C.1 C.2.1 hd ht (fun p => kt (by rwa [if_pos p] at h) H locs ls hR hS hl) (fun p => kf (by rwa [if_neg p] at h) H locs ls hR hS hl)
theorem v_if_le (C : Gd X G cc own nL d ret mc ms) {R : Type} {x : Int32} {off : Int} {tgt : Nat} {A B : Option R} {res : R} (hd : decode cc pc = .ok (.ifCond .le off, 3)) (ht : (pc : Int) + off = (tgt : Int)) (h : (if x ≤ 0 then A else B) = some res) (kt : A = some res → V X G mc ms Q σ tgt lc st) (kf : B = some res → V X G mc ms Q σ (pc + 3) lc st) : V X G mc ms Q σ pc lc (.int x :: st) := fun H locs ls hR hS hl => lv_if_le C.1 C.2.1 hd ht (fun p => kt (by rwa [if_pos p] at h) H locs ls hR hS hl) (fun p => kf (by rwa [if_neg p] at h) H locs ls hR hS hl)
theorem v_icmp_le (C : Gd X G cc own nL d ret mc ms) {R : Type} {x y : Int32} {off : Int} {tgt : Nat} {A B : Option R} {res : R} (hd : decode cc pc = .ok (.if_icmp .le off, 3)) (ht : (pc : Int) + off = (tgt : Int)) (h : (if x ≤ y then A else B) = some res) (kt : A = some res → V X G mc ms Q σ tgt lc st) (kf : B = some res → V X G mc ms Q σ (pc + 3) lc st) : V X G mc ms Q σ pc lc (.int y :: .int x :: st) := fun H locs ls hR hS hl => lv_icmp_le C.1 C.2.1 hd ht (fun p => kt (by rwa [if_pos p] at h) H locs ls hR hS hl) (fun p => kf (by rwa [if_neg p] at h) H locs ls hR hS hl)
theorem v_tin (C : Gd X G cc own nL d ret mc ms) {dflt lo hi : Int} {offs : Array Int} {len : Nat} {x : Int32} {off : Int} {tgt : Nat} (hd : decode cc pc = .ok (.tableswitch dflt lo hi offs, len)) (h1 : ¬ x.toInt < lo) (h2 : ¬ hi < x.toInt) (ho : offs[(x.toInt - lo).toNat]? = some off) (ht : (pc : Int) + off = (tgt : Int)) (kk : V X G mc ms Q σ tgt lc st) : V X G mc ms Q σ pc lc (.int x :: st) := fun H locs ls hR hS hl => lv_tableIn C.1 C.2.1 hd h1 h2 ho ht (kk H locs ls hR hS hl)
theorem v_tout (C : Gd X G cc own nL d ret mc ms) {dflt lo hi : Int} {offs : Array Int} {len : Nat} {x : Int32} {tgt : Nat} (hd : decode cc pc = .ok (.tableswitch dflt lo hi offs, len)) (h : x.toInt < lo ∨ hi < x.toInt) (ht : (pc : Int) + dflt = (tgt : Int)) (kk : V X G mc ms Q σ tgt lc st) : V X G mc ms Q σ pc lc (.int x :: st) := fun H locs ls hR hS hl => lv_tableOut C.1 C.2.1 hd h ht (kk H locs ls hR hS hl)
theorem tne {x : Int32} {k : Int32} {a : Int} (h : ¬ x = k) (hk : k.toInt = a) : x.toInt ≠ a := fun e => h (Int32.toInt_inj.mp (e.trans hk.symm))
/-- a field that holds a number -/
theorem v_geti (C : Gd X G cc own nL d ret mc ms) {CC : String} {T : u_T} {N : Nat} (κ j l k f : Nat) {index : Nat} {fs : List Value} (hk : okt κ j l) (hc : clz[κ]? = some (CC, T, N)) (hin : ∀ w ∈ u_ws CC T N, w ∈ wsA) (hkn : k < N) (hlink : Cond.fieldLink own index CC (T k).2.1 (T k).2.2.1 ∈ wsA) (hT : (T k).1 = CC) (he : cE G σ κ j l = .inr (κ, fs)) (hv : fs[k]? = some (.int (σ.1 f j l))) (hd : decode cc pc = .ok (.getfield index, 3))
    (kk : V X G mc ms Q σ (pc + 3) lc (.int (σ.1 f j l) :: st)) : V X G mc ms Q σ pc lc (.ref (ad G κ j l) :: st) := fun H locs ls hR hS hl =>
  va_get (D := G.2.2.1) (ci := κ) C.1 C.2.1 C.2.2.2.2.1 hin C.2.2.2.1 C.2.2.2.2.2.1.1 hR.1 (off κ j l) (by rw [wl_get hk, he]) hc k hkn (C.2.2.2.2.1 _ hlink) (fun x h => by rw [hT] at h; exact h) hv hd (kk H locs ls hR hS hl)
/-- a field that holds a reference -/
theorem v_getr (C : Gd X G cc own nL d ret mc ms) {CC : String} {T : u_T} {N : Nat} (κ j l k a : Nat) {index : Nat} {fs : List Value} (hk : okt κ j l) (hc : clz[κ]? = some (CC, T, N)) (hin : ∀ w ∈ u_ws CC T N, w ∈ wsA) (hkn : k < N) (hlink : Cond.fieldLink own index CC (T k).2.1 (T k).2.2.1 ∈ wsA) (hT : (T k).1 = CC) (he : cE G σ κ j l = .inr (κ, fs)) (hv : fs[k]? = some (.ref a)) (hd : decode cc pc = .ok (.getfield index, 3))
    (kk : V X G mc ms Q σ (pc + 3) lc (.ref a :: st)) : V X G mc ms Q σ pc lc (.ref (ad G κ j l) :: st) := fun H locs ls hR hS hl =>
  va_get (D := G.2.2.1) (ci := κ) C.1 C.2.1 C.2.2.2.2.1 hin C.2.2.2.1 C.2.2.2.2.2.1.1 hR.1 (off κ j l) (by rw [wl_get hk, he]) hc k hkn (C.2.2.2.2.1 _ hlink) (fun x h => by rw [hT] at h; exact h) hv hd (kk H locs ls hR hS hl)
/-- a number is put into a field -/
theorem v_puti (C : Gd X G cc own nL d ret mc ms) {CC : String} {T : u_T} {N : Nat} (κ j l k f : Nat) {index : Nat} {fs : List Value} {v : Int32} {ty : FieldType} (ty0 : Nat → FieldType) (hk : okt κ j l) (hc : clz[κ]? = some (CC, T, N)) (hin : ∀ w ∈ u_ws CC T N, w ∈ wsA) (hty : ∀ k, k < N → parseFieldDescriptor (T k).2.2.1 = some (ty0 k)) (hnm : ∀ a, a < N → ∀ b, b < N → a ≠ b → (T a).2.1 ≠ (T b).2.1) (hkn : k < N) (hlink : Cond.fieldLink own index CC (T k).2.1 (T k).2.2.1 ∈ wsA) (hT : (T k).1 = CC) (hfin : (T k).2.2.2 = false) (hdsc : parseFieldDescriptor (T k).2.2.1 = some ty) (hn : narrow ty (.int v) = .int v) (hfit : fits ty (.int v) = true) (hκ : κ < 11) (hf : 16 * κ ≤ f ∧ f < 16 * κ + 16) (he : cE G σ κ j l = .inr (κ, fs)) (hl9 : k < fs.length) (he2 : .inr (κ, fs.set k (.int v)) = cE G (up σ f j l v) κ j l) (hd : decode cc pc = .ok (.putfield index, 3))
    (kk : V X G mc ms Q (up σ f j l v) (pc + 3) lc st) : V X G mc ms Q σ pc lc (.int v :: .ref (ad G κ j l) :: st) := fun H locs ls hR hS hl =>
  va_put (D := G.2.2.1) (ci := κ) C.1 C.2.1 C.2.2.2.2.1 hin ty0 hty hnm C.2.2.2.1 C.2.2.2.2.2.1.1 hR.1 wl_D hS (off κ j l) (by rw [wl_get hk, he]) hc k hkn (C.2.2.2.2.1 _ hlink) (fun x h => by rw [hT] at h; exact h) hfin hdsc hn hfit hl9 hd (fun H1 locs1 hP _ hS1 => kk H1 locs1 ls ⟨wl_put hk hκ hf he2 ▸ hP, hR.2⟩ hS1 hl)
/-- arrays of numbers -/
theorem upd_up {σ : Sto} {f j i : Nat} {v : Int32} : upd (σ.1 f j) i v = (up σ f j i v).1 f j := by
  funext k
  simp only [upd, up, true_and]
theorem v_iald (C : Gd X G cc own nL d ret mc ms) {R : Type} (κ j f n : Nat) {i : Int32} {A : Option R} {res : R} (hk : okt κ j 0) (he : cE G σ κ j 0 = ia G σ f j n) (hd : decode cc pc = .ok (.iaload, 1)) (h : (if inb i n then A else none) = some res)
    (kk : A = some res → V X G mc ms Q σ (pc + 1) lc (.int (σ.1 f j i.toNatClampNeg) :: st)) : V X G mc ms Q σ pc lc (.int i :: .ref (ad G κ j 0) :: st) := fun H locs ls hR hS hl =>
  va_iald C.1 C.2.1 C.2.2.2.2.2.1.1 hR.1 (off κ j 0) 0 (by rw [wl_get hk, he]; rfl) rfl (vp_in_iff.mpr (if_some h).1) hd (kk (if_some h).2 H locs ls hR hS hl)
theorem v_iast (C : Gd X G cc own nL d ret mc ms) {R : Type} (κ j f n : Nat) {i v : Int32} {A : Option R} {res : R} (hk : okt κ j 0) (hκ : 11 ≤ κ) (hf : f = 16 * κ) (he : ∀ τ : Sto, cE G τ κ j 0 = ia G τ f j n) (hd : decode cc pc = .ok (.iastore, 1)) (h : (if inb i n then A else none) = some res)
    (kk : A = some res → V X G mc ms Q (up σ f j i.toNatClampNeg v) (pc + 1) lc st) : V X G mc ms Q σ pc lc (.int v :: .int i :: .ref (ad G κ j 0) :: st) := fun H locs ls hR hS hl =>
  va_iast C.1 C.2.1 C.2.2.2.2.2.1.1 hR.1 wl_D hS (off κ j 0) 0 (by rw [wl_get hk, he]; rfl) rfl (vp_in_iff.mpr (if_some h).1) hd (fun H1 locs1 hP _ hS1 => kk (if_some h).2 H1 locs1 ls ⟨by rw [upd_up] at hP; rw [← wl_puta (i := i.toNatClampNeg) (v := v) hk hκ hf rfl, he]; exact hP, hR.2⟩ hS1 hl)
theorem v_cald (C : Gd X G cc own nL d ret mc ms) {R : Type} {i : Int32} {A : Option R} {res : R} (hd : decode cc pc = .ok (.caload, 1)) (h : (if inb i 60 then A else none) = some res)
    (kk : A = some res → V X G mc ms Q σ (pc + 1) lc (.int (σ.1 256 0 i.toNatClampNeg) :: st)) : V X G mc ms Q σ pc lc (.int i :: .ref (ad G 16 0 0) :: st) := fun H locs ls hR hS hl =>
  va_cald C.1 C.2.1 C.2.2.2.2.2.1.1 hR.1 (off 16 0 0) 1 (by rw [wl_get (by unfold okt; decide)]; rfl) rfl (vp_in_iff.mpr (if_some h).1) hd (kk (if_some h).2 H locs ls hR hS hl)
theorem v_cast (C : Gd X G cc own nL d ret mc ms) {R : Type} {i v : Int32} {A : Option R} {res : R} (hd : decode cc pc = .ok (.castore, 1)) (h : (if inb i 60 then A else none) = some res)
    (kk : A = some res → V X G mc ms Q (up σ 256 0 i.toNatClampNeg (vp_nar .char v)) (pc + 1) lc st) : V X G mc ms Q σ pc lc (.int v :: .int i :: .ref (ad G 16 0 0) :: st) := fun H locs ls hR hS hl =>
  va_cast C.1 C.2.1 C.2.2.2.2.2.1.1 hR.1 wl_D hS (off 16 0 0) 1 (by rw [wl_get (by unfold okt; decide)]; rfl) rfl (vp_in_iff.mpr (if_some h).1) hd (fun H1 locs1 hP _ hS1 => kk (if_some h).2 H1 locs1 ls ⟨by rw [upd_up] at hP; rw [← wl_puta (κ := 16) (j := 0) (i := i.toNatClampNeg) (v := vp_nar .char v) (by unfold okt; decide) (by decide) rfl rfl]; exact hP, hR.2⟩ hS1 hl)
/-- arrays of references: their rows stand -/
theorem v_aald (C : Gd X G cc own nL d ret mc ms) {R : Type} (κ j n t c : Nat) (g : Nat → Nat) {CN : String} {i : Int32} {A : Option R} {res : R} (hk : okt κ j 0) (ht : (tysG G)[t]? = some (G.2.2.2 c, .object CN)) (he : cE G σ κ j 0 = ra G c n g) (hd : decode cc pc = .ok (.aaload, 1)) (h : (if inb i n then A else none) = some res)
    (kk : A = some res → V X G mc ms Q σ (pc + 1) lc (.ref (g i.toNatClampNeg) :: st)) : V X G mc ms Q σ pc lc (.int i :: .ref (ad G κ j 0) :: st) := fun H locs ls hR hS hl =>
  va_aldq (f := fun i => some (g i)) C.1 C.2.1 C.2.2.2.2.2.1.1 hR.1 (off κ j 0) t (by rw [wl_get hk, he]; rfl) ht (vp_in_iff.mpr (if_some h).1) hd (kk (if_some h).2 H locs ls hR hS hl)
theorem up_upH {σ : Sto} {i m : Nat} : .inl (G.2.2.2 5, 4, .inr (.inr (.inr (.inr (va_up (fun i => some (ad G 5 (σ.2 i) 0)) i (some (ad G 5 m 0))))))) = cE G (upH σ i m) 15 0 0 := by
  have e : va_up (fun i => some (ad G 5 (σ.2 i) 0)) i (some (ad G 5 m 0)) = fun k => some (ad G 5 ((upH σ i m).2 k) 0) := by
    funext k
    simp only [va_up, upH]
    split <;> rfl
  rw [e]
  rfl
theorem v_aast (C : Gd X G cc own nL d ret mc ms) {R : Type} (m : Nat) {i : Int32} {A : Option R} {res : R} (hm : m < 7) (hd : decode cc pc = .ok (.aastore, 1)) (h : (if inb i 4 then A else none) = some res)
    (kk : A = some res → V X G mc ms Q (upH σ i.toNatClampNeg m) (pc + 1) lc st) : V X G mc ms Q σ pc lc (.ref (ad G 5 m 0) :: .int i :: .ref (ad G 15 0 0) :: st) := fun H locs ls hR hS hl =>
  va_astq (r := (RX5, TX5, 10)) C.1 C.2.1 C.2.2.2.2.2.1.1 hR.1 wl_D hS (off 15 0 0) 5 (off 5 m 0) 5 (by rw [wl_get (by unfold okt; decide)]; rfl) rfl (by rw [wl_get ⟨by decide, hm, by decide⟩]; rfl) rfl (vp_in_iff.mpr (if_some h).1) hd (fun H1 locs1 hP _ hS1 => kk (if_some h).2 H1 locs1 ls ⟨by rw [← wl_putH (i := i.toNatClampNeg) (m := m) rfl, ← up_upH]; exact hP, fun x => by show (if x = _ then m else σ.2 x) < 7; split; exact hm; exact hR.2 x⟩ hS1 hl)
theorem v_alen (C : Gd X G cc own nL d ret mc ms) (κ j n t c : Nat) {ty : FieldType} {x : vp_A} {v : Int32} (hk : okt κ j 0) (ht : (tysG G)[t]? = some (G.2.2.2 c, ty)) (he : cE G σ κ j 0 = .inl (G.2.2.2 c, x)) (hv : Int32.ofNat x.1 = v) (hd : decode cc pc = .ok (.arraylength, 1))
    (kk : V X G mc ms Q σ (pc + 1) lc (.int v :: st)) : V X G mc ms Q σ pc lc (.ref (ad G κ j 0) :: st) := fun H locs ls hR hS hl =>
  va_alen C.1 C.2.1 C.2.2.2.2.2.1.1 hR.1 (off κ j 0) t (by rw [wl_get hk, he]) ht hv hd (kk H locs ls hR hS hl)
/-- the fees -/
theorem v_fees (C : Gd X G cc own nL d ret mc ms) {index : Nat} (hlink : Cond.fieldLink own index "PeerNotes" "FEES" "[I" ∈ wsA) (hd : decode cc pc = .ok (.getstatic index, 3)) (kk : V X G mc ms Q σ (pc + 3) lc (.ref G.2.1 :: st)) : V X G mc ms Q σ pc lc st := fun H locs ls hR hS hl =>
  va_gets C.1 C.2.1 C.2.2.2.2.2.2.1.1 hS C.2.2.2.1 (C.2.2.2.2.1 _ hlink) (fun x h => h) hd (kk H locs ls hR hS hl)
theorem v_feesN (C : Gd X G cc own nL d ret mc ms) (ho : own = "PeerNotes$Market") (hd : decode cc pc = .ok (.getstatic 29, 3)) (kk : V X G mc ms Q σ (pc + 3) lc (.ref G.2.1 :: st)) : V X G mc ms Q σ pc lc st := fun H locs ls hR hS hl =>
  va_getsN (host := "PeerNotes") C.1 C.2.1 C.2.2.2.2.2.2.1.1 hS C.2.2.2.1 (by rw [ho]; exact va_Nw.use rfl C.2.2.2.2.2.1.2.1) (fun x h => h) hd (kk H locs ls hR hS hl)
theorem v_feeld (C : Gd X G cc own nL d ret mc ms) {R : Type} {i : Int32} {A : Option R} {res : R} (hd : decode cc pc = .ok (.iaload, 1)) (h : (if inb i 4 then A else none) = some res) (kk : A = some res → V X G mc ms Q σ (pc + 1) lc (.int (feeI i.toNatClampNeg) :: st)) : V X G mc ms Q σ pc lc (.int i :: .ref G.2.1 :: st) := fun H locs ls hR hS hl =>
  va_ti C.1 C.2.1 C.2.2.2.2.2.2.1.2 hS (vp_in_iff.mpr (if_some h).1) rfl hd (kk (if_some h).2 H locs ls hR hS hl)
theorem v_feelen (C : Gd X G cc own nL d ret mc ms) (hd : decode cc pc = .ok (.arraylength, 1)) (kk : V X G mc ms Q σ (pc + 1) lc (.int 4 :: st)) : V X G mc ms Q σ pc lc (.ref G.2.1 :: st) := fun H locs ls hR hS hl =>
  va_tlen C.1 C.2.1 C.2.2.2.2.2.2.1.2 hS rfl hd (kk H locs ls hR hS hl)

end V1
end
section
/-! CONTRACTS AND CALLS -/
abbrev Ym : Type := MethodName × ByteArray × Nat × Option FieldType
def rmd (d : Nat) : Room := { frames := d, cells := 0, slots := 0, locals := 29 * d }
def wsY (y : Ym) : List Cond := .code y.1 y.2.1 y.2.2.1 y.2.2.2 :: wsA
def QcR (G : Gm) (r : Option Value) (τ : Sto) : Array Value → State → Outcome → State → Prop := fun _ st oc t => (oc = .returned r ∧ Rep G τ t.heap) ∧ va_F (AG G) st t
/-- the contract: from a world with σ the call of y with these values returns r and leaves the world with τ; d: the depth of calls that it may need -/
def Cl (G : Gm) (d : Nat) (y : Ym) (av : List Value) (σ : Sto) (r : Option Value) (τ : Sto) : Prop := ∀ l : Launch, Met l y.1 (wsY y) (rmd d) (va_Pc av (Wd G σ)) (QcR G r τ) 0 0 (AG G)
def QE (X : Cx) (G : Gm) (r : Option Value) (τ : Sto) : State → Prop := MQ X.2.2.2.2.2.2.2.1 (QcR G r τ) (cxA X) (cxS X) 0 0 (AG G)
def ent (av : List Value) (n : Nat) : List (Option Value) := av.map some ++ List.replicate (n - av.length) none
theorem lg_sl_1 : ∀ {av : List Value}, (∀ v ∈ av, v.category = 1) → lg_sl av = av.map Slot.val
  | [], _ => rfl
  | v :: av, h => by
    have h1 := h v List.mem_cons_self
    have h2 := lg_sl_1 (av := av) (fun w hw => h w (List.mem_cons_of_mem _ hw))
    show (if v.category = 2 then _ else _) ++ lg_sl av = _
    rw [if_neg (by omega), h2]
    rfl
theorem lv_args_1 : ∀ (av : List Value) (i : Nat), (∀ v ∈ av, v.category = 1) → ∀ (k : Nat) (w : Value), i ≤ k → av[k - i]? = some w → (k, w) ∈ lv_args i av
  | [], _, _, _, _, _, h => by simp at h
  | v :: av, i, hc, k, w, hk, h => by
    have h1 := hc v List.mem_cons_self
    show (k, w) ∈ (i, v) :: lv_args (if v.category = 2 then i + 2 else i + 1) av
    rw [if_neg (by omega)]
    rcases Nat.eq_or_lt_of_le hk with e | e
    · subst e
      rw [Nat.sub_self] at h
      cases h
      exact List.mem_cons_self
    · refine List.mem_cons_of_mem _ (lv_args_1 av (i + 1) (fun w hw => hc w (List.mem_cons_of_mem _ hw)) k w e ?_)
      rw [show k - i = (k - (i + 1)) + 1 by omega, List.getElem?_cons_succ] at h
      exact h
theorem lcok_ent {av : List Value} {n : Nat} (hc : ∀ v ∈ av, v.category = 1) (hn : av.length ≤ n) : lcok ((lg_sl av ++ List.replicate (n - (lg_sl av).length) Slot.unset).toArray) (ent av n) := by
  have h := lv_entry av (n := n) (by rw [lg_sl_1 hc, List.length_map]; exact hn)
  have hl : (ent av n).length = n := by simp only [ent, List.length_append, List.length_map, List.length_replicate]; omega
  refine ⟨by rw [hl]; exact h.1, h.2.1, fun q hq => ?_⟩
  obtain ⟨k, w⟩ := q
  have hk := ((asc_mem _ 0 k w).mp hq).2
  rw [Nat.sub_zero, ent] at hk
  refine h.2.2 (k, w) (lv_args_1 av 0 hc k w (Nat.zero_le _) ?_)
  rw [Nat.sub_zero]
  by_cases hlt : k < av.length
  · rw [List.getElem?_append_left (by simpa using hlt), List.getElem?_map] at hk
    rcases hx : av[k]? with _ | z <;> rw [hx] at hk <;> simp at hk
    rw [hk]
  · rw [List.getElem?_append_right (by simpa using hlt)] at hk
    have := List.eq_of_mem_replicate (List.mem_of_getElem? hk)
    cases this
theorem Cl.mk {G : Gm} {d : Nat} {y : Ym} {av : List Value} {σ τ : Sto} {r : Option Value} {cc : ByteArray} {own : String} {nL : Nat} {ret : Option FieldType} (e1 : y.2.1 = cc) (e2 : y.1.cls = own) (e3 : y.2.2.1 = nL) (e4 : y.2.2.2 = ret) (hy : plainName y.1.cls = true) (hc : ∀ v ∈ av, v.category = 1) (hn : av.length ≤ nL)
    (h : ∀ X : Cx, Gd X G cc own nL d ret 0 0 → V X G 0 0 (QE X G r τ) σ 0 (ent av nL) []) : Cl G d y av σ r τ := by
  subst e1; subst e2; subst e3; subst e4
  intro l
  refine Met.ofW (cc := y.2.1) (maxL := y.2.2.1) (ret := y.2.2.2) hy rfl ?_
  intro p e s m args below meth c s₁ B hml hv
  obtain ⟨rfl, hR, hT, hF⟩ := hv
  have hts := atoms_spec (ws := wsY y) B.pre
  have hown : s.vm.findClass y.1.cls = some m.cls := findClass_of_methodNamed B.named
  have h1 := h (p, l, e, (headSpec (wsY y) (rmd d)).room, s, m, av.toArray, below, meth, c) ⟨B.exec, B.bytes, hml, hown, fun w hw => hts w (List.mem_cons_of_mem _ hw), hT, hF, Nat.le_refl _, Nat.le_refl _, Nat.zero_le _, Nat.zero_le _, B.returns, B.notSynchronized⟩
  rw [lg_entry_eq]
  exact h1 s.heap [] _ hR va_S.rf (lcok_ent hc hn)
section V2
variable {X : Cx} {G : Gm} {mc ms : Nat} {Q : State → Prop} {σ τ : Sto} {pc : Nat} {lc : List (Option Value)} {st : List Value} {cc : ByteArray} {own : String} {nL d : Nat} {ret : Option FieldType}
theorem v_iret {x r : Int32} (C : Gd X G cc own nL d (some .int) 0 0) (hd : decode cc pc = .ok (.ireturn, 1)) (h : some (x, σ) = some (r, τ)) : V X G 0 0 (QE X G (some (.int r)) τ) σ pc lc [.int x] := by
  cases h
  exact fun H locs ls hR hS hl => W.iret C.1 C.2.1 C.2.2.2.2.2.2.2.2.2.2.2.1 (fun t ht hW => ⟨⟨rfl, by rw [ht]; exact hR⟩, hS.F ht⟩) hS.2.2 hd (hlocks := C.2.2.2.2.2.2.2.2.2.2.2.2)
theorem v_zretc {x r : Int32} (C : Gd X G cc own nL d (some .boolean) 0 0) (hd : decode cc pc = .ok (.ireturn, 1)) (hn : narrow .boolean (.int x) = .int x) (h : some (x, σ) = some (r, τ)) : V X G 0 0 (QE X G (some (.int r)) τ) σ pc lc [.int x] := by
  cases h
  exact fun H locs ls hR hS hl => W.zret C.1 C.2.1 C.2.2.2.2.2.2.2.2.2.2.2.1 hn (fun t ht hW => ⟨⟨rfl, by rw [ht]; exact hR⟩, hS.F ht⟩) hS.2.2 hd (hlocks := C.2.2.2.2.2.2.2.2.2.2.2.2)
theorem nar01 {x : Int32} (h : x = 0 ∨ x = 1) : narrow .boolean (.int x) = .int x := by
  rcases h with rfl | rfl <;> decide +kernel
theorem fit01 {x : Int32} (h : x = 0 ∨ x = 1) : fits .boolean (.int x) = true := by
  rcases h with rfl | rfl <;> decide +kernel
theorem v_zret {x r : Int32} (C : Gd X G cc own nL d (some .boolean) 0 0) (hd : decode cc pc = .ok (.ireturn, 1)) (h : (if x = 0 ∨ x = 1 then some (x, σ) else none) = some (r, τ)) : V X G 0 0 (QE X G (some (.int r)) τ) σ pc lc [.int x] := v_zretc C hd (nar01 (if_some h).1) (if_some h).2
theorem v_vret (C : Gd X G cc own nL d none 0 0) (hd : decode cc pc = .ok (.return_, 1)) (h : some σ = some τ) : V X G 0 0 (QE X G none τ) σ pc lc [] := by
  cases h
  exact fun H locs ls hR hS hl => W.vret C.1 C.2.1 C.2.2.2.2.2.2.2.2.2.2.2.1 (fun t ht hW => ⟨⟨rfl, by rw [ht]; exact hR⟩, hS.F ht⟩) hS.2.2 hd (hlocks := C.2.2.2.2.2.2.2.2.2.2.2.2)
/-- what a call's place and its method need of the tables -/
def SiM (y : Ym) (n : Nat) : Prop := Cond.initialized y.1.cls ∈ wsA ∧ Cond.code y.1 y.2.1 y.2.2.1 y.2.2.2 ∈ wsA ∧ (y.1.cls ≠ "java/lang/invoke/MethodHandle" ∧ y.1.cls ≠ "java/lang/invoke/VarHandle" ∧ (parseMethodDescriptor y.1.desc).map (fun d => d.parameters.length) = some n) ∧ y.2.2.1 ≤ 10
def SiV (y : Ym) (n : Nat) : Prop := SiM y n ∧ Cond.instanceMethod y.1 ∈ wsA ∧ Cond.selects y.1.cls y.1 y.1 ∈ wsA
def SiS (y : Ym) (n : Nat) : Prop := SiM y n ∧ Cond.static y.1 ∈ wsA
theorem Gd.callB (C : Gd X G cc own nL (d + 1) ret mc ms) {y : Ym} {n index : Nat} (hs : SiM y n) (hl : Cond.methodLink own index y.1 ∈ wsA) : CallB (cxR X) (cxS X) (cxA X) own index y.1 y.2.1 y.2.2.1 y.2.2.2 (wsY y) (rmd d) 0 0 n := by
  obtain ⟨h1, h2, h3, h4⟩ := hs
  obtain ⟨-, -, -, -, hts, -, -, hf, ho, -⟩ := C
  refine ⟨rfl, rfl, hf, by show 8 + (y.2.2.1 + 11) + 29 * d ≤ _; omega, fun w hw a' U hW => ?_, List.mem_cons_self, hts _ h2, hts _ h1, ⟨h3.1, h3.2.1⟩, fun sig h => ?_, hts _ hl⟩
  · have hw' : w ∈ wsA := (List.mem_cons.mp hw).elim (fun e => e ▸ h2) id
    exact word_at hW (wsA_good hw') (hts w hw')
  · have h5 := h3.2.2
    rw [h] at h5
    exact (Option.some.inj h5).symm
theorem Gd.callN (C : Gd X G cc own nL (d + 1) ret mc ms) {y : Ym} {n index : Nat} {host : String} (hs : SiM y n) (hl : (own, index, y.1, host) ∈ nsM) : va_CN (cxR X) (cxS X) (cxA X) own index y.1 host y.2.1 y.2.2.1 y.2.2.2 (wsY y) (rmd d) 0 0 n := by
  obtain ⟨h1, h2, h3, h4⟩ := hs
  obtain ⟨-, -, -, -, hts, hwt, -, hf, ho, -⟩ := C
  refine ⟨⟨rfl, rfl, hf, by show 8 + (y.2.2.1 + 11) + 29 * d ≤ _; omega, fun w hw a' U hW => ?_, List.mem_cons_self⟩, hts _ h2, hts _ h1, ⟨h3.1, h3.2.1⟩, fun sig h => ?_, va_Nw.use rfl (hwt.2.2 _ hl)⟩
  · have hw' : w ∈ wsA := (List.mem_cons.mp hw).elim (fun e => e ▸ h2) id
    exact word_at hW (wsA_good hw') (hts w hw')
  · have h5 := h3.2.2
    rw [h] at h5
    exact (Option.some.inj h5).symm
theorem blindW {av : List Value} : FrameBlind (va_Pc av (Wd G σ)) := fun a U g mk q => ⟨q.1, Wd.blind g mk a q.2⟩
theorem Gd.world (C : Gd X G cc own nL d ret mc ms) {H : Heap} {locs : List Loc} (hR : Rep G σ H) (hS : va_S (AG G) (cxS X).heap H locs) {U : State} (hU : U.heap = H) (hW : (cxS X).WarmedH U.vm) : Wd G σ U :=
  ⟨by rw [hU]; exact hR, C.2.2.2.2.2.1.warm hW, (Wf.kept (C.2.2.2.2.2.2.1.alike hW.alike) (H1 := U.heap) (fun a h1 h2 => by rw [hU]; exact hS.2.1 a h1 h2))⟩
/-- the end of a call -/
theorem run_end {H : Heap} {locs : List Loc} {ls : Array Slot} {r : Option Value} {st0 : List Value} {a : Array Value} (hS : va_S (AG G) (cxS X).heap H locs) (hl : lcok ls lc)
    (hr : va_Run X.1 X.2.1 X.2.2.1 X.2.2.2.1 X.2.2.2.2.1 X.2.2.2.2.2.1 X.2.2.2.2.2.2.1 X.2.2.2.2.2.2.2.1 X.2.2.2.2.2.2.2.2.1 X.2.2.2.2.2.2.2.2.2 H locs mc ms 0 0 (F0 (cxM X) pc ls st0) st (QcR G r τ a) (AG G))
    (kk : V X G mc ms Q τ (pc + 3) lc (r.toList ++ st)) : WX X H locs mc ms Q (F0 (cxM X) pc ls st0) := by
  intro T hT Y
  obtain ⟨v, st₀, t, T', L, h0, Y', hL, e1, e2, ⟨⟨hv, hRep⟩, hz, hk⟩, stp⟩ := hr T hT Y
  cases hv
  rw [h0] at hz hk
  have hS' : va_S (AG G) (cxS X).heap T'.heap (locs ++ L) := ⟨Nat.le_trans hS.1 (by rw [e1]; exact hz), fun q h1 h2 => by rw [e1, hk q (Nat.lt_of_lt_of_le h1 hS.1) h2]; exact hS.2.1 q h1 h2, fun q hq => by
      rcases List.mem_append.mp hq with h | h
      · exact hS.2.2 q h
      · exact hL q h⟩
  obtain ⟨t2, a1, b1⟩ := kk T'.heap (locs ++ L) ls (by rw [e1]; exact hRep) hS' hl T' rfl Y'
  exact ⟨t2, stp t2 a1, b1⟩
theorem v_callV (C : Gd X G cc own nL (d + 1) ret mc ms) (κ j l : Nat) {y : Ym} {n index : Nat} {av fs st0 : List Value} {r : Option Value} {T : u_T} {N : Nat} (hs : SiV y n) (hlk : Cond.methodLink own index y.1 ∈ wsA) (hk : okt κ j l) (hc : clz[κ]? = some (y.1.cls, T, N)) (he : cE G σ κ j l = .inr (κ, fs)) (hn : av.length = n) (hlc : lc.length = nL) (hst : st0 = av.reverse ++ .ref (ad G κ j l) :: st) (hcat : (st.map fun v => v.category).sum ≤ 8) (hd : decode cc pc = .ok (.invokevirtual index, 3)) (hcl : Cl G d y (.ref (ad G κ j l) :: av) σ r τ)
    (kk : V X G mc ms Q τ (pc + 3) lc (r.toList ++ st)) : V X G mc ms Q σ pc lc st0 := by
  intro H locs ls hR hS hl
  refine run_end hS hl (va_runV (C := y.1.cls) (nL := nL) (b := ad G κ j l) (As := av) (rest := st) ⟨C.1, C.2.1, C.2.2.1, C.2.2.2.1, C.2.2.2.2.1⟩ (hcl _) ⟨C.callB hs.1 hlk, C.2.2.2.2.1 _ hs.2.1, C.2.2.2.2.1 _ hs.2.2⟩ ⟨blindW, va_recv C.2.2.2.2.2.1.1 hR.1 hc (q0 := off κ j l) (by rw [wl_get hk, he]), fun U hU hW => ⟨rfl, C.world hR hS hU hW⟩⟩ rfl hn (hl.1.trans hlc) hst (lv_room hcat) hd ⟨C.2.2.2.2.2.2.2.2.2.1, C.2.2.2.2.2.2.2.2.2.2.1⟩) kk
theorem v_callS (C : Gd X G cc own nL (d + 1) ret mc ms) {y : Ym} {n index : Nat} {av st0 : List Value} {r : Option Value} (hs : SiS y n) (hlk : Cond.methodLink own index y.1 ∈ wsA) (hn : av.length = n) (hlc : lc.length = nL) (hst : st0 = av.reverse ++ st) (hcat : (st.map fun v => v.category).sum ≤ 8) (hd : decode cc pc = .ok (.invokestatic index, 3)) (hcl : Cl G d y av σ r τ)
    (kk : V X G mc ms Q τ (pc + 3) lc (r.toList ++ st)) : V X G mc ms Q σ pc lc st0 := by
  intro H locs ls hR hS hl
  refine run_end hS hl (va_runS (nL := nL) (As := av) (rest := st) ⟨C.1, C.2.1, C.2.2.1, C.2.2.2.1, C.2.2.2.2.1⟩ (hcl _) ⟨C.callB hs.1 hlk, C.2.2.2.2.1 _ hs.2⟩ ⟨blindW, fun U hU hW => ⟨rfl, C.world hR hS hU hW⟩⟩ rfl hn (hl.1.trans hlc) hst (lv_room hcat) hd ⟨C.2.2.2.2.2.2.2.2.2.1, C.2.2.2.2.2.2.2.2.2.2.1⟩) kk
theorem v_callSN (C : Gd X G cc own nL (d + 1) ret mc ms) {y : Ym} {n index : Nat} {av st0 : List Value} {r : Option Value} (hs : SiS y n) (hlk : (own, index, y.1, "PeerNotes") ∈ nsM) (hn : av.length = n) (hlc : lc.length = nL) (hst : st0 = av.reverse ++ st) (hcat : (st.map fun v => v.category).sum ≤ 8) (hd : decode cc pc = .ok (.invokestatic index, 3)) (hcl : Cl G d y av σ r τ)
    (kk : V X G mc ms Q τ (pc + 3) lc (r.toList ++ st)) : V X G mc ms Q σ pc lc st0 := by
  intro H locs ls hR hS hl
  refine run_end hS hl (va_runSN (nL := nL) (As := av) (rest := st) ⟨C.1, C.2.1, C.2.2.1, C.2.2.2.1, C.2.2.2.2.1⟩ (hcl _) ⟨C.callN hs.1 hlk, C.2.2.2.2.1 _ hs.2, trivial⟩ ⟨blindW, fun U hU hW => ⟨rfl, C.world hR hS hU hW⟩⟩ rfl hn (hl.1.trans hlc) hst (lv_room hcat) hd ⟨C.2.2.2.2.2.2.2.2.2.1, C.2.2.2.2.2.2.2.2.2.2.1⟩) kk
/-- Math.min, Math.max -/
def jmin (x y : Int32) : Int32 := if y < x then y else x
def jmax (x y : Int32) : Int32 := if x < y then y else x
theorem v_mmin (C : Gd X G cc own nL (d + 1) ret mc ms) {x y : Int32} {index : Nat} (hlk : Cond.methodLink own index Lib.Math.min.name ∈ wsA) (h1 : Cond.static Lib.Math.min.name ∈ wsA) (h2 : Cond.initialized "java/lang/Math" ∈ wsA) (h3 : Cond.code Lib.Math.min.name Lib.Math.min.code 2 (some .int) ∈ wsA) (hlc : lc.length = nL) (hcat : (st.map fun v => v.category).sum ≤ 8) (hd : decode cc pc = .ok (.invokestatic index, 3))
    (kk : V X G mc ms Q σ (pc + 3) lc (.int (jmin x y) :: st)) : V X G mc ms Q σ pc lc (.int y :: .int x :: st) := by
  intro H locs ls hR hS hl
  obtain ⟨c1, c2, c3, c4, hts, -, -, hf, ho, hc1, hc2, -⟩ := C
  exact va_mmin c1 c2 (c3.trans (hlc.symm.trans hl.1.symm)) c4 (hts _ hlk) (hts _ h1) (hts _ h2) (hts _ h3) (by omega) (by omega) hc1 hc2 hd (kk H locs ls hR hS hl)
theorem v_mmax (C : Gd X G cc own nL (d + 1) ret mc ms) {x y : Int32} {index : Nat} (hlk : Cond.methodLink own index Lib.Math.max.name ∈ wsA) (h1 : Cond.static Lib.Math.max.name ∈ wsA) (h2 : Cond.initialized "java/lang/Math" ∈ wsA) (h3 : Cond.code Lib.Math.max.name Lib.Math.max.code 2 (some .int) ∈ wsA) (hlc : lc.length = nL) (hcat : (st.map fun v => v.category).sum ≤ 8) (hd : decode cc pc = .ok (.invokestatic index, 3))
    (kk : V X G mc ms Q σ (pc + 3) lc (.int (jmax x y) :: st)) : V X G mc ms Q σ pc lc (.int y :: .int x :: st) := by
  intro H locs ls hR hS hl
  obtain ⟨c1, c2, c3, c4, hts, -, -, hf, ho, hc1, hc2, -⟩ := C
  exact va_mmax c1 c2 (c3.trans (hlc.symm.trans hl.1.symm)) c4 (hts _ hlk) (hts _ h1) (hts _ h2) (hts _ h3) (by omega) (by omega) hc1 hc2 hd (kk H locs ls hR hS hl)
/-- calls with their answer out of the store's function -/
theorem vb_i {R : Type} {f : Option (Int32 × Sto)} {k : Int32 → Sto → Option R} {res : R} {T : Prop} (h : bd f k = some res) (kk : ∀ (r : Int32) (τ : Sto), f = some (r, τ) → k r τ = some res → T) : T := by
  obtain ⟨r, τ, h1, h2⟩ := bd_some h
  exact kk r τ h1 h2
theorem vb_v {R : Type} {f : Option Sto} {k : Sto → Option R} {res : R} {T : Prop} (h : bv f k = some res) (kk : ∀ τ : Sto, f = some τ → k τ = some res → T) : T := by
  obtain ⟨τ, h1, h2⟩ := bv_some h
  exact kk τ h1 h2
end V2
end
section
/-! SITES: places of the constant pools, methods, by program (wip/whole/gen.py) -/
theorem ok0 {l : Nat} (hl : l < 10) : okt 0 0 l := ⟨by decide, by decide, hl⟩
theorem ok1  : okt 1 0 0 := ⟨by decide, by decide, by decide⟩
theorem ok2  : okt 2 0 0 := ⟨by decide, by decide, by decide⟩
theorem ok3 {j l : Nat} (hj : j < 7) (hl : l < 8) : okt 3 j l := ⟨by decide, hj, hl⟩
theorem ok4 {j l : Nat} (hj : j < 7) (hl : l < 10) : okt 4 j l := ⟨by decide, hj, hl⟩
theorem ok5 {j : Nat} (hj : j < 7) : okt 5 j 0 := ⟨by decide, hj, by decide⟩
theorem ok6 {j l : Nat} (hj : j < 7) (hl : l < 60) : okt 6 j l := ⟨by decide, hj, hl⟩
theorem ok7  : okt 7 0 0 := ⟨by decide, by decide, by decide⟩
theorem ok8  : okt 8 0 0 := ⟨by decide, by decide, by decide⟩
theorem ok9  : okt 9 0 0 := ⟨by decide, by decide, by decide⟩
theorem ok10  : okt 10 0 0 := ⟨by decide, by decide, by decide⟩
theorem ok11 {j : Nat} (hj : j < 7) : okt 11 j 0 := ⟨by decide, hj, by decide⟩
theorem ok12 {j : Nat} (hj : j < 7) : okt 12 j 0 := ⟨by decide, hj, by decide⟩
theorem ok13 {j : Nat} (hj : j < 7) : okt 13 j 0 := ⟨by decide, hj, by decide⟩
theorem ok14 {j : Nat} (hj : j < 7) : okt 14 j 0 := ⟨by decide, hj, by decide⟩
theorem ok15  : okt 15 0 0 := ⟨by decide, by decide, by decide⟩
theorem ok16  : okt 16 0 0 := ⟨by decide, by decide, by decide⟩
theorem ok17  : okt 17 0 0 := ⟨by decide, by decide, by decide⟩
theorem ok18 {j : Nat} (hj : j < 3) : okt 18 j 0 := ⟨by decide, hj, by decide⟩
theorem ok19  : okt 19 0 0 := ⟨by decide, by decide, by decide⟩
theorem ok20  : okt 20 0 0 := ⟨by decide, by decide, by decide⟩
theorem ok21  : okt 21 0 0 := ⟨by decide, by decide, by decide⟩
theorem ok22  : okt 22 0 0 := ⟨by decide, by decide, by decide⟩
theorem ok23  : okt 23 0 0 := ⟨by decide, by decide, by decide⟩
theorem ok24  : okt 24 0 0 := ⟨by decide, by decide, by decide⟩
theorem ok25  : okt 25 0 0 := ⟨by decide, by decide, by decide⟩
theorem ok26  : okt 26 0 0 := ⟨by decide, by decide, by decide⟩
set_option maxRecDepth 20000 in
theorem inA0 : ∀ w ∈ wsX00, w ∈ wsA := fun w hw => List.mem_filter.mpr ⟨(by decide +kernel : ∀ w ∈ wsX00, w ∈ lw_tbl) w hw, (by decide +kernel : ∀ w ∈ wsX00, goodWord w = true) w hw⟩
set_option maxRecDepth 20000 in
theorem inA1 : ∀ w ∈ wsX10, w ∈ wsA := fun w hw => List.mem_filter.mpr ⟨(by decide +kernel : ∀ w ∈ wsX10, w ∈ lw_tbl) w hw, (by decide +kernel : ∀ w ∈ wsX10, goodWord w = true) w hw⟩
set_option maxRecDepth 20000 in
theorem inA2 : ∀ w ∈ wsX20, w ∈ wsA := fun w hw => List.mem_filter.mpr ⟨(by decide +kernel : ∀ w ∈ wsX20, w ∈ lw_tbl) w hw, (by decide +kernel : ∀ w ∈ wsX20, goodWord w = true) w hw⟩
set_option maxRecDepth 20000 in
theorem inA3 : ∀ w ∈ wsX30, w ∈ wsA := fun w hw => List.mem_filter.mpr ⟨(by decide +kernel : ∀ w ∈ wsX30, w ∈ lw_tbl) w hw, (by decide +kernel : ∀ w ∈ wsX30, goodWord w = true) w hw⟩
set_option maxRecDepth 20000 in
theorem inA4 : ∀ w ∈ wsX40, w ∈ wsA := fun w hw => List.mem_filter.mpr ⟨(by decide +kernel : ∀ w ∈ wsX40, w ∈ lw_tbl) w hw, (by decide +kernel : ∀ w ∈ wsX40, goodWord w = true) w hw⟩
set_option maxRecDepth 20000 in
theorem inA5 : ∀ w ∈ wsX50, w ∈ wsA := fun w hw => List.mem_filter.mpr ⟨(by decide +kernel : ∀ w ∈ wsX50, w ∈ lw_tbl) w hw, (by decide +kernel : ∀ w ∈ wsX50, goodWord w = true) w hw⟩
set_option maxRecDepth 20000 in
theorem inA6 : ∀ w ∈ wsX60, w ∈ wsA := fun w hw => List.mem_filter.mpr ⟨(by decide +kernel : ∀ w ∈ wsX60, w ∈ lw_tbl) w hw, (by decide +kernel : ∀ w ∈ wsX60, goodWord w = true) w hw⟩
set_option maxRecDepth 20000 in
theorem inA7 : ∀ w ∈ wsX70, w ∈ wsA := fun w hw => List.mem_filter.mpr ⟨(by decide +kernel : ∀ w ∈ wsX70, w ∈ lw_tbl) w hw, (by decide +kernel : ∀ w ∈ wsX70, goodWord w = true) w hw⟩
set_option maxRecDepth 20000 in
theorem inA8 : ∀ w ∈ wsX80, w ∈ wsA := fun w hw => List.mem_filter.mpr ⟨(by decide +kernel : ∀ w ∈ wsX80, w ∈ lw_tbl) w hw, (by decide +kernel : ∀ w ∈ wsX80, goodWord w = true) w hw⟩
set_option maxRecDepth 20000 in
theorem inA9 : ∀ w ∈ wsX90, w ∈ wsA := fun w hw => List.mem_filter.mpr ⟨(by decide +kernel : ∀ w ∈ wsX90, w ∈ lw_tbl) w hw, (by decide +kernel : ∀ w ∈ wsX90, goodWord w = true) w hw⟩
set_option maxRecDepth 20000 in
theorem inA10 : ∀ w ∈ wsX100, w ∈ wsA := fun w hw => List.mem_filter.mpr ⟨(by decide +kernel : ∀ w ∈ wsX100, w ∈ lw_tbl) w hw, (by decide +kernel : ∀ w ∈ wsX100, goodWord w = true) w hw⟩
theorem ki_m1 : Int32.ofInt (-1) = (-1 : Int32) := by decide
theorem ki_0 : Int32.ofInt (0) = (0 : Int32) := by decide
theorem ki_1 : Int32.ofInt (1) = (1 : Int32) := by decide
theorem ki_2 : Int32.ofInt (2) = (2 : Int32) := by decide
theorem ki_3 : Int32.ofInt (3) = (3 : Int32) := by decide
theorem ki_4 : Int32.ofInt (4) = (4 : Int32) := by decide
theorem ki_5 : Int32.ofInt (5) = (5 : Int32) := by decide
theorem kb_m100 : (Int8.ofInt (-100)).toInt32 = (-100 : Int32) := by decide
theorem kb_m5 : (Int8.ofInt (-5)).toInt32 = (-5 : Int32) := by decide
theorem kb_m4 : (Int8.ofInt (-4)).toInt32 = (-4 : Int32) := by decide
theorem kb_m3 : (Int8.ofInt (-3)).toInt32 = (-3 : Int32) := by decide
theorem kb_m2 : (Int8.ofInt (-2)).toInt32 = (-2 : Int32) := by decide
theorem kb_6 : (Int8.ofInt (6)).toInt32 = (6 : Int32) := by decide
theorem kb_7 : (Int8.ofInt (7)).toInt32 = (7 : Int32) := by decide
theorem kb_8 : (Int8.ofInt (8)).toInt32 = (8 : Int32) := by decide
theorem kb_9 : (Int8.ofInt (9)).toInt32 = (9 : Int32) := by decide
theorem kb_10 : (Int8.ofInt (10)).toInt32 = (10 : Int32) := by decide
theorem kb_11 : (Int8.ofInt (11)).toInt32 = (11 : Int32) := by decide
theorem kb_12 : (Int8.ofInt (12)).toInt32 = (12 : Int32) := by decide
theorem kb_15 : (Int8.ofInt (15)).toInt32 = (15 : Int32) := by decide
theorem kb_20 : (Int8.ofInt (20)).toInt32 = (20 : Int32) := by decide
theorem kb_24 : (Int8.ofInt (24)).toInt32 = (24 : Int32) := by decide
theorem kb_31 : (Int8.ofInt (31)).toInt32 = (31 : Int32) := by decide
theorem kb_34 : (Int8.ofInt (34)).toInt32 = (34 : Int32) := by decide
theorem kb_36 : (Int8.ofInt (36)).toInt32 = (36 : Int32) := by decide
theorem kb_40 : (Int8.ofInt (40)).toInt32 = (40 : Int32) := by decide
theorem kb_48 : (Int8.ofInt (48)).toInt32 = (48 : Int32) := by decide
theorem kb_50 : (Int8.ofInt (50)).toInt32 = (50 : Int32) := by decide
theorem kb_57 : (Int8.ofInt (57)).toInt32 = (57 : Int32) := by decide
theorem kb_59 : (Int8.ofInt (59)).toInt32 = (59 : Int32) := by decide
theorem kb_60 : (Int8.ofInt (60)).toInt32 = (60 : Int32) := by decide
theorem kb_62 : (Int8.ofInt (62)).toInt32 = (62 : Int32) := by decide
theorem kb_64 : (Int8.ofInt (64)).toInt32 = (64 : Int32) := by decide
theorem kb_100 : (Int8.ofInt (100)).toInt32 = (100 : Int32) := by decide
theorem kb_106 : (Int8.ofInt (106)).toInt32 = (106 : Int32) := by decide
theorem kb_115 : (Int8.ofInt (115)).toInt32 = (115 : Int32) := by decide
theorem ks_144 : (Int16.ofInt (144)).toInt32 = (144 : Int32) := by decide
theorem ks_240 : (Int16.ofInt (240)).toInt32 = (240 : Int32) := by decide
theorem ks_564 : (Int16.ofInt (564)).toInt32 = (564 : Int32) := by decide
theorem ks_1000 : (Int16.ofInt (1000)).toInt32 = (1000 : Int32) := by decide
theorem ks_1692 : (Int16.ofInt (1692)).toInt32 = (1692 : Int32) := by decide
theorem ks_2256 : (Int16.ofInt (2256)).toInt32 = (2256 : Int32) := by decide
theorem kl_0 : Int64.ofNat (((0 : Fin 2) : Nat)) = (0 : Int64) := by decide
theorem kl_1 : Int64.ofNat (((1 : Fin 2) : Nat)) = (1 : Int64) := by decide
theorem kc_1 (x : Int32) : x + Int32.ofInt 1 = x + 1 := by rw [ki_1]
theorem kc_m1 (x : Int32) : x + Int32.ofInt (-1) = x + (-1) := by rw [ki_m1]
theorem kc_5 (x : Int32) : x + Int32.ofInt 5 = x + 5 := by rw [ki_5]
theorem catA {av : List Value} (h : av.all (fun v => v.category == 1) = true) : ∀ v ∈ av, v.category = 1 := fun v hv => by simpa using List.all_eq_true.mp h v hv
section SI
variable {X : Cx} {G : Gm} {mc ms : Nat} {Q : State → Prop} {σ : Sto} {pc : Nat} {lc : List (Option Value)} {st : List Value} {cc : ByteArray} {nL d : Nat} {ret : Option FieldType}
theorem pf_X1_15 (C : Gd X G cc RX1 nL d ret mc ms) {v : Int32} (hd : decode cc pc = .ok (.putfield 15, 3)) (kk : V X G mc ms Q (up σ 17 0 0 v) (pc + 3) lc st) : V X G mc ms Q σ pc lc (.int v :: .ref (ad G 1 0 0) :: st) := v_puti C 1 0 0 1 17 (ty := .int) tyX1 (ok1) rfl inA1 tyX1_ok nmX1 (by decide) (wA 298 (by decide +kernel) rfl) rfl rfl (by decide +kernel) rfl rfl (by decide) (by decide) rfl (Nat.le_of_ble_eq_true rfl) (by simp [cE, up]) hd kk
theorem pf_X1_25 (C : Gd X G cc RX1 nL d ret mc ms) {v : Int32} (hd : decode cc pc = .ok (.putfield 25, 3)) (kk : V X G mc ms Q (up σ 19 0 0 v) (pc + 3) lc st) : V X G mc ms Q σ pc lc (.int v :: .ref (ad G 1 0 0) :: st) := v_puti C 1 0 0 3 19 (ty := .int) tyX1 (ok1) rfl inA1 tyX1_ok nmX1 (by decide) (wA 302 (by decide +kernel) rfl) rfl rfl (by decide +kernel) rfl rfl (by decide) (by decide) rfl (Nat.le_of_ble_eq_true rfl) (by simp [cE, up]) hd kk
theorem gf_X1_21 (C : Gd X G cc RX1 nL d ret mc ms) (hd : decode cc pc = .ok (.getfield 21, 3)) (kk : V X G mc ms Q σ (pc + 3) lc (.ref (ad G 17 0 0) :: st)) : V X G mc ms Q σ pc lc (.ref (ad G 1 0 0) :: st) := v_getr C 1 0 0 2 (ad G 17 0 0) (ok1) rfl inA1 (by decide) (wA 300 (by decide +kernel) rfl) rfl rfl rfl hd kk
theorem gf_X1_15 (C : Gd X G cc RX1 nL d ret mc ms) (hd : decode cc pc = .ok (.getfield 15, 3)) (kk : V X G mc ms Q σ (pc + 3) lc (.int (σ.1 17 0 0) :: st)) : V X G mc ms Q σ pc lc (.ref (ad G 1 0 0) :: st) := v_geti C 1 0 0 1 17 (ok1) rfl inA1 (by decide) (wA 298 (by decide +kernel) rfl) rfl rfl rfl hd kk
theorem gf_X1_9 (C : Gd X G cc RX1 nL d ret mc ms) (hd : decode cc pc = .ok (.getfield 9, 3)) (kk : V X G mc ms Q σ (pc + 3) lc (.ref (ad G 16 0 0) :: st)) : V X G mc ms Q σ pc lc (.ref (ad G 1 0 0) :: st) := v_getr C 1 0 0 0 (ad G 16 0 0) (ok1) rfl inA1 (by decide) (wA 296 (by decide +kernel) rfl) rfl rfl rfl hd kk
theorem pf_X1_37 (C : Gd X G cc RX1 nL d ret mc ms) {l : Nat} (hl : l < 10) {v : Int32} (hd : decode cc pc = .ok (.putfield 37, 3)) (kk : V X G mc ms Q (up σ 0 0 l v) (pc + 3) lc st) : V X G mc ms Q σ pc lc (.int v :: .ref (ad G 0 0 l) :: st) := v_puti C 0 0 l 0 0 (ty := .int) tyX0 (ok0 hl) rfl inA0 tyX0_ok nmX0 (by decide) (wA 278 (by decide +kernel) rfl) rfl rfl (by decide +kernel) rfl rfl (by decide) (by decide) rfl (Nat.le_of_ble_eq_true rfl) (by simp [cE, up]) hd kk
theorem pf_X1_40 (C : Gd X G cc RX1 nL d ret mc ms) {l : Nat} (hl : l < 10) {v : Int32} (hd : decode cc pc = .ok (.putfield 40, 3)) (kk : V X G mc ms Q (up σ 1 0 l v) (pc + 3) lc st) : V X G mc ms Q σ pc lc (.int v :: .ref (ad G 0 0 l) :: st) := v_puti C 0 0 l 1 1 (ty := .int) tyX0 (ok0 hl) rfl inA0 tyX0_ok nmX0 (by decide) (wA 280 (by decide +kernel) rfl) rfl rfl (by decide +kernel) rfl rfl (by decide) (by decide) rfl (Nat.le_of_ble_eq_true rfl) (by simp [cE, up]) hd kk
theorem pf_X1_43 (C : Gd X G cc RX1 nL d ret mc ms) {l : Nat} (hl : l < 10) {v : Int32} (hd : decode cc pc = .ok (.putfield 43, 3)) (kk : V X G mc ms Q (up σ 2 0 l v) (pc + 3) lc st) : V X G mc ms Q σ pc lc (.int v :: .ref (ad G 0 0 l) :: st) := v_puti C 0 0 l 2 2 (ty := .int) tyX0 (ok0 hl) rfl inA0 tyX0_ok nmX0 (by decide) (wA 282 (by decide +kernel) rfl) rfl rfl (by decide +kernel) rfl rfl (by decide) (by decide) rfl (Nat.le_of_ble_eq_true rfl) (by simp [cE, up]) hd kk
theorem pf_X1_46 (C : Gd X G cc RX1 nL d ret mc ms) {l : Nat} (hl : l < 10) {v : Int32} (hd : decode cc pc = .ok (.putfield 46, 3)) (kk : V X G mc ms Q (up σ 3 0 l v) (pc + 3) lc st) : V X G mc ms Q σ pc lc (.int v :: .ref (ad G 0 0 l) :: st) := v_puti C 0 0 l 3 3 (ty := .int) tyX0 (ok0 hl) rfl inA0 tyX0_ok nmX0 (by decide) (wA 284 (by decide +kernel) rfl) rfl rfl (by decide +kernel) rfl rfl (by decide) (by decide) rfl (Nat.le_of_ble_eq_true rfl) (by simp [cE, up]) hd kk
theorem gf_X1_46 (C : Gd X G cc RX1 nL d ret mc ms) {l : Nat} (hl : l < 10) (hd : decode cc pc = .ok (.getfield 46, 3)) (kk : V X G mc ms Q σ (pc + 3) lc (.int (σ.1 3 0 l) :: st)) : V X G mc ms Q σ pc lc (.ref (ad G 0 0 l) :: st) := v_geti C 0 0 l 3 3 (ok0 hl) rfl inA0 (by decide) (wA 284 (by decide +kernel) rfl) rfl rfl rfl hd kk
theorem pf_X2_17 (C : Gd X G cc RX2 nL d ret mc ms) {v : Int32} (hd : decode cc pc = .ok (.putfield 17, 3)) (kk : V X G mc ms Q (up σ 33 0 0 v) (pc + 3) lc st) : V X G mc ms Q σ pc lc (.int v :: .ref (ad G 2 0 0) :: st) := v_puti C 2 0 0 1 33 (ty := .int) tyX2 (ok2) rfl inA2 tyX2_ok nmX2 (by decide) (wA 258 (by decide +kernel) rfl) rfl rfl (by decide +kernel) rfl rfl (by decide) (by decide) rfl (Nat.le_of_ble_eq_true rfl) (by simp [cE, up]) hd kk
theorem gf_X2_11 (C : Gd X G cc RX2 nL d ret mc ms) (hd : decode cc pc = .ok (.getfield 11, 3)) (kk : V X G mc ms Q σ (pc + 3) lc (.ref (ad G 15 0 0) :: st)) : V X G mc ms Q σ pc lc (.ref (ad G 2 0 0) :: st) := v_getr C 2 0 0 0 (ad G 15 0 0) (ok2) rfl inA2 (by decide) (wA 257 (by decide +kernel) rfl) rfl rfl rfl hd kk
theorem gf_X2_17 (C : Gd X G cc RX2 nL d ret mc ms) (hd : decode cc pc = .ok (.getfield 17, 3)) (kk : V X G mc ms Q σ (pc + 3) lc (.int (σ.1 33 0 0) :: st)) : V X G mc ms Q σ pc lc (.ref (ad G 2 0 0) :: st) := v_geti C 2 0 0 1 33 (ok2) rfl inA2 (by decide) (wA 258 (by decide +kernel) rfl) rfl rfl rfl hd kk
theorem pf_X3_7 (C : Gd X G cc RX3 nL d ret mc ms) {j : Nat} (hj : j < 7) {l : Nat} (hl : l < 8) {v : Int32} (hd : decode cc pc = .ok (.putfield 7, 3)) (kk : V X G mc ms Q (up σ 48 j l v) (pc + 3) lc st) : V X G mc ms Q σ pc lc (.int v :: .ref (ad G 3 j l) :: st) := v_puti C 3 j l 0 48 (ty := .int) tyX3 (ok3 hj hl) rfl inA3 tyX3_ok nmX3 (by decide) (wA 80 (by decide +kernel) rfl) rfl rfl (by decide +kernel) rfl rfl (by decide) (by decide) rfl (Nat.le_of_ble_eq_true rfl) (by simp [cE, up]) hd kk
theorem pf_X3_13 (C : Gd X G cc RX3 nL d ret mc ms) {j : Nat} (hj : j < 7) {l : Nat} (hl : l < 8) {v : Int32} (hd : decode cc pc = .ok (.putfield 13, 3)) (kk : V X G mc ms Q (up σ 49 j l v) (pc + 3) lc st) : V X G mc ms Q σ pc lc (.int v :: .ref (ad G 3 j l) :: st) := v_puti C 3 j l 1 49 (ty := .int) tyX3 (ok3 hj hl) rfl inA3 tyX3_ok nmX3 (by decide) (wA 84 (by decide +kernel) rfl) rfl rfl (by decide +kernel) rfl rfl (by decide) (by decide) rfl (Nat.le_of_ble_eq_true rfl) (by simp [cE, up]) hd kk
theorem pf_X3_16 (C : Gd X G cc RX3 nL d ret mc ms) {j : Nat} (hj : j < 7) {l : Nat} (hl : l < 8) {v : Int32} (hd : decode cc pc = .ok (.putfield 16, 3)) (kk : V X G mc ms Q (up σ 50 j l v) (pc + 3) lc st) : V X G mc ms Q σ pc lc (.int v :: .ref (ad G 3 j l) :: st) := v_puti C 3 j l 2 50 (ty := .int) tyX3 (ok3 hj hl) rfl inA3 tyX3_ok nmX3 (by decide) (wA 87 (by decide +kernel) rfl) rfl rfl (by decide +kernel) rfl rfl (by decide) (by decide) rfl (Nat.le_of_ble_eq_true rfl) (by simp [cE, up]) hd kk
theorem gf_X3_7 (C : Gd X G cc RX3 nL d ret mc ms) {j : Nat} (hj : j < 7) {l : Nat} (hl : l < 8) (hd : decode cc pc = .ok (.getfield 7, 3)) (kk : V X G mc ms Q σ (pc + 3) lc (.int (σ.1 48 j l) :: st)) : V X G mc ms Q σ pc lc (.ref (ad G 3 j l) :: st) := v_geti C 3 j l 0 48 (ok3 hj hl) rfl inA3 (by decide) (wA 80 (by decide +kernel) rfl) rfl rfl rfl hd kk
theorem gf_X3_13 (C : Gd X G cc RX3 nL d ret mc ms) {j : Nat} (hj : j < 7) {l : Nat} (hl : l < 8) (hd : decode cc pc = .ok (.getfield 13, 3)) (kk : V X G mc ms Q σ (pc + 3) lc (.int (σ.1 49 j l) :: st)) : V X G mc ms Q σ pc lc (.ref (ad G 3 j l) :: st) := v_geti C 3 j l 1 49 (ok3 hj hl) rfl inA3 (by decide) (wA 84 (by decide +kernel) rfl) rfl rfl rfl hd kk
theorem gf_X3_16 (C : Gd X G cc RX3 nL d ret mc ms) {j : Nat} (hj : j < 7) {l : Nat} (hl : l < 8) (hd : decode cc pc = .ok (.getfield 16, 3)) (kk : V X G mc ms Q σ (pc + 3) lc (.int (σ.1 50 j l) :: st)) : V X G mc ms Q σ pc lc (.ref (ad G 3 j l) :: st) := v_geti C 3 j l 2 50 (ok3 hj hl) rfl inA3 (by decide) (wA 87 (by decide +kernel) rfl) rfl rfl rfl hd kk
theorem pf_X4_9 (C : Gd X G cc RX4 nL d ret mc ms) {j : Nat} (hj : j < 7) {l : Nat} (hl : l < 10) {v : Int32} (hd : decode cc pc = .ok (.putfield 9, 3)) (kk : V X G mc ms Q (up σ 64 j l v) (pc + 3) lc st) : V X G mc ms Q σ pc lc (.int v :: .ref (ad G 4 j l) :: st) := v_puti C 4 j l 0 64 (ty := .int) tyX4 (ok4 hj hl) rfl inA4 tyX4_ok nmX4 (by decide) (wA 103 (by decide +kernel) rfl) rfl rfl (by decide +kernel) rfl rfl (by decide) (by decide) rfl (Nat.le_of_ble_eq_true rfl) (by simp [cE, up]) hd kk
theorem pf_X4_15 (C : Gd X G cc RX4 nL d ret mc ms) {j : Nat} (hj : j < 7) {l : Nat} (hl : l < 10) {v : Int32} (hd : decode cc pc = .ok (.putfield 15, 3)) (kk : V X G mc ms Q (up σ 65 j l v) (pc + 3) lc st) : V X G mc ms Q σ pc lc (.int v :: .ref (ad G 4 j l) :: st) := v_puti C 4 j l 1 65 (ty := .int) tyX4 (ok4 hj hl) rfl inA4 tyX4_ok nmX4 (by decide) (wA 106 (by decide +kernel) rfl) rfl rfl (by decide +kernel) rfl rfl (by decide) (by decide) rfl (Nat.le_of_ble_eq_true rfl) (by simp [cE, up]) hd kk
theorem pf_X4_18 (C : Gd X G cc RX4 nL d ret mc ms) {j : Nat} (hj : j < 7) {l : Nat} (hl : l < 10) {v : Int32} (hd : decode cc pc = .ok (.putfield 18, 3)) (kk : V X G mc ms Q (up σ 66 j l v) (pc + 3) lc st) : V X G mc ms Q σ pc lc (.int v :: .ref (ad G 4 j l) :: st) := v_puti C 4 j l 2 66 (ty := .int) tyX4 (ok4 hj hl) rfl inA4 tyX4_ok nmX4 (by decide) (wA 109 (by decide +kernel) rfl) rfl rfl (by decide +kernel) rfl rfl (by decide) (by decide) rfl (Nat.le_of_ble_eq_true rfl) (by simp [cE, up]) hd kk
theorem pf_X4_21 (C : Gd X G cc RX4 nL d ret mc ms) {j : Nat} (hj : j < 7) {l : Nat} (hl : l < 10) {v : Int32} (hd : decode cc pc = .ok (.putfield 21, 3)) (kk : V X G mc ms Q (up σ 67 j l v) (pc + 3) lc st) : V X G mc ms Q σ pc lc (.int v :: .ref (ad G 4 j l) :: st) := v_puti C 4 j l 3 67 (ty := .int) tyX4 (ok4 hj hl) rfl inA4 tyX4_ok nmX4 (by decide) (wA 110 (by decide +kernel) rfl) rfl rfl (by decide +kernel) rfl rfl (by decide) (by decide) rfl (Nat.le_of_ble_eq_true rfl) (by simp [cE, up]) hd kk
theorem pf_X4_24 (C : Gd X G cc RX4 nL d ret mc ms) {j : Nat} (hj : j < 7) {l : Nat} (hl : l < 10) {v : Int32} (hd : decode cc pc = .ok (.putfield 24, 3)) (kk : V X G mc ms Q (up σ 68 j l v) (pc + 3) lc st) : V X G mc ms Q σ pc lc (.int v :: .ref (ad G 4 j l) :: st) := v_puti C 4 j l 4 68 (ty := .int) tyX4 (ok4 hj hl) rfl inA4 tyX4_ok nmX4 (by decide) (wA 111 (by decide +kernel) rfl) rfl rfl (by decide +kernel) rfl rfl (by decide) (by decide) rfl (Nat.le_of_ble_eq_true rfl) (by simp [cE, up]) hd kk
theorem pf_X4_27 (C : Gd X G cc RX4 nL d ret mc ms) {j : Nat} (hj : j < 7) {l : Nat} (hl : l < 10) {v : Int32} (hd : decode cc pc = .ok (.putfield 27, 3)) (kk : V X G mc ms Q (up σ 69 j l v) (pc + 3) lc st) : V X G mc ms Q σ pc lc (.int v :: .ref (ad G 4 j l) :: st) := v_puti C 4 j l 5 69 (ty := .int) tyX4 (ok4 hj hl) rfl inA4 tyX4_ok nmX4 (by decide) (wA 115 (by decide +kernel) rfl) rfl rfl (by decide +kernel) rfl rfl (by decide) (by decide) rfl (Nat.le_of_ble_eq_true rfl) (by simp [cE, up]) hd kk
theorem pf_X4_30 (C : Gd X G cc RX4 nL d ret mc ms) {j : Nat} (hj : j < 7) {l : Nat} (hl : l < 10) {v : Int32} (hd : decode cc pc = .ok (.putfield 30, 3)) (kk : V X G mc ms Q (up σ 70 j l v) (pc + 3) lc st) : V X G mc ms Q σ pc lc (.int v :: .ref (ad G 4 j l) :: st) := v_puti C 4 j l 6 70 (ty := .int) tyX4 (ok4 hj hl) rfl inA4 tyX4_ok nmX4 (by decide) (wA 117 (by decide +kernel) rfl) rfl rfl (by decide +kernel) rfl rfl (by decide) (by decide) rfl (Nat.le_of_ble_eq_true rfl) (by simp [cE, up]) hd kk
theorem pf_X4_33 (C : Gd X G cc RX4 nL d ret mc ms) {j : Nat} (hj : j < 7) {l : Nat} (hl : l < 10) {v : Int32} (hd : decode cc pc = .ok (.putfield 33, 3)) (kk : V X G mc ms Q (up σ 71 j l v) (pc + 3) lc st) : V X G mc ms Q σ pc lc (.int v :: .ref (ad G 4 j l) :: st) := v_puti C 4 j l 7 71 (ty := .int) tyX4 (ok4 hj hl) rfl inA4 tyX4_ok nmX4 (by decide) (wA 121 (by decide +kernel) rfl) rfl rfl (by decide +kernel) rfl rfl (by decide) (by decide) rfl (Nat.le_of_ble_eq_true rfl) (by simp [cE, up]) hd kk
theorem pf_X4_36 (C : Gd X G cc RX4 nL d ret mc ms) {j : Nat} (hj : j < 7) {l : Nat} (hl : l < 10) {v : Int32} (hd : decode cc pc = .ok (.putfield 36, 3)) (kk : V X G mc ms Q (up σ 72 j l v) (pc + 3) lc st) : V X G mc ms Q σ pc lc (.int v :: .ref (ad G 4 j l) :: st) := v_puti C 4 j l 8 72 (ty := .int) tyX4 (ok4 hj hl) rfl inA4 tyX4_ok nmX4 (by decide) (wA 123 (by decide +kernel) rfl) rfl rfl (by decide +kernel) rfl rfl (by decide) (by decide) rfl (Nat.le_of_ble_eq_true rfl) (by simp [cE, up]) hd kk
theorem pf_X4_39 (C : Gd X G cc RX4 nL d ret mc ms) {j : Nat} (hj : j < 7) {l : Nat} (hl : l < 10) {v : Int32} (hd : decode cc pc = .ok (.putfield 39, 3)) (kk : V X G mc ms Q (up σ 73 j l v) (pc + 3) lc st) : V X G mc ms Q σ pc lc (.int v :: .ref (ad G 4 j l) :: st) := v_puti C 4 j l 9 73 (ty := .int) tyX4 (ok4 hj hl) rfl inA4 tyX4_ok nmX4 (by decide) (wA 127 (by decide +kernel) rfl) rfl rfl (by decide +kernel) rfl rfl (by decide) (by decide) rfl (Nat.le_of_ble_eq_true rfl) (by simp [cE, up]) hd kk
theorem pf_X4_42 (C : Gd X G cc RX4 nL d ret mc ms) {j : Nat} (hj : j < 7) {l : Nat} (hl : l < 10) {v : Int32} (hd : decode cc pc = .ok (.putfield 42, 3)) (kk : V X G mc ms Q (up σ 74 j l v) (pc + 3) lc st) : V X G mc ms Q σ pc lc (.int v :: .ref (ad G 4 j l) :: st) := v_puti C 4 j l 10 74 (ty := .int) tyX4 (ok4 hj hl) rfl inA4 tyX4_ok nmX4 (by decide) (wA 130 (by decide +kernel) rfl) rfl rfl (by decide +kernel) rfl rfl (by decide) (by decide) rfl (Nat.le_of_ble_eq_true rfl) (by simp [cE, up]) hd kk
theorem gf_X4_15 (C : Gd X G cc RX4 nL d ret mc ms) {j : Nat} (hj : j < 7) {l : Nat} (hl : l < 10) (hd : decode cc pc = .ok (.getfield 15, 3)) (kk : V X G mc ms Q σ (pc + 3) lc (.int (σ.1 65 j l) :: st)) : V X G mc ms Q σ pc lc (.ref (ad G 4 j l) :: st) := v_geti C 4 j l 1 65 (ok4 hj hl) rfl inA4 (by decide) (wA 106 (by decide +kernel) rfl) rfl rfl rfl hd kk
theorem gf_X4_21 (C : Gd X G cc RX4 nL d ret mc ms) {j : Nat} (hj : j < 7) {l : Nat} (hl : l < 10) (hd : decode cc pc = .ok (.getfield 21, 3)) (kk : V X G mc ms Q σ (pc + 3) lc (.int (σ.1 67 j l) :: st)) : V X G mc ms Q σ pc lc (.ref (ad G 4 j l) :: st) := v_geti C 4 j l 3 67 (ok4 hj hl) rfl inA4 (by decide) (wA 110 (by decide +kernel) rfl) rfl rfl rfl hd kk
theorem gf_X4_42 (C : Gd X G cc RX4 nL d ret mc ms) {j : Nat} (hj : j < 7) {l : Nat} (hl : l < 10) (hd : decode cc pc = .ok (.getfield 42, 3)) (kk : V X G mc ms Q σ (pc + 3) lc (.int (σ.1 74 j l) :: st)) : V X G mc ms Q σ pc lc (.ref (ad G 4 j l) :: st) := v_geti C 4 j l 10 74 (ok4 hj hl) rfl inA4 (by decide) (wA 130 (by decide +kernel) rfl) rfl rfl rfl hd kk
theorem gf_X4_30 (C : Gd X G cc RX4 nL d ret mc ms) {j : Nat} (hj : j < 7) {l : Nat} (hl : l < 10) (hd : decode cc pc = .ok (.getfield 30, 3)) (kk : V X G mc ms Q σ (pc + 3) lc (.int (σ.1 70 j l) :: st)) : V X G mc ms Q σ pc lc (.ref (ad G 4 j l) :: st) := v_geti C 4 j l 6 70 (ok4 hj hl) rfl inA4 (by decide) (wA 117 (by decide +kernel) rfl) rfl rfl rfl hd kk
theorem gf_X4_33 (C : Gd X G cc RX4 nL d ret mc ms) {j : Nat} (hj : j < 7) {l : Nat} (hl : l < 10) (hd : decode cc pc = .ok (.getfield 33, 3)) (kk : V X G mc ms Q σ (pc + 3) lc (.int (σ.1 71 j l) :: st)) : V X G mc ms Q σ pc lc (.ref (ad G 4 j l) :: st) := v_geti C 4 j l 7 71 (ok4 hj hl) rfl inA4 (by decide) (wA 121 (by decide +kernel) rfl) rfl rfl rfl hd kk
theorem gf_X4_36 (C : Gd X G cc RX4 nL d ret mc ms) {j : Nat} (hj : j < 7) {l : Nat} (hl : l < 10) (hd : decode cc pc = .ok (.getfield 36, 3)) (kk : V X G mc ms Q σ (pc + 3) lc (.int (σ.1 72 j l) :: st)) : V X G mc ms Q σ pc lc (.ref (ad G 4 j l) :: st) := v_geti C 4 j l 8 72 (ok4 hj hl) rfl inA4 (by decide) (wA 123 (by decide +kernel) rfl) rfl rfl rfl hd kk
theorem gf_X4_24 (C : Gd X G cc RX4 nL d ret mc ms) {j : Nat} (hj : j < 7) {l : Nat} (hl : l < 10) (hd : decode cc pc = .ok (.getfield 24, 3)) (kk : V X G mc ms Q σ (pc + 3) lc (.int (σ.1 68 j l) :: st)) : V X G mc ms Q σ pc lc (.ref (ad G 4 j l) :: st) := v_geti C 4 j l 4 68 (ok4 hj hl) rfl inA4 (by decide) (wA 111 (by decide +kernel) rfl) rfl rfl rfl hd kk
theorem gf_X4_18 (C : Gd X G cc RX4 nL d ret mc ms) {j : Nat} (hj : j < 7) {l : Nat} (hl : l < 10) (hd : decode cc pc = .ok (.getfield 18, 3)) (kk : V X G mc ms Q σ (pc + 3) lc (.int (σ.1 66 j l) :: st)) : V X G mc ms Q σ pc lc (.ref (ad G 4 j l) :: st) := v_geti C 4 j l 2 66 (ok4 hj hl) rfl inA4 (by decide) (wA 109 (by decide +kernel) rfl) rfl rfl rfl hd kk
theorem gf_X4_27 (C : Gd X G cc RX4 nL d ret mc ms) {j : Nat} (hj : j < 7) {l : Nat} (hl : l < 10) (hd : decode cc pc = .ok (.getfield 27, 3)) (kk : V X G mc ms Q σ (pc + 3) lc (.int (σ.1 69 j l) :: st)) : V X G mc ms Q σ pc lc (.ref (ad G 4 j l) :: st) := v_geti C 4 j l 5 69 (ok4 hj hl) rfl inA4 (by decide) (wA 115 (by decide +kernel) rfl) rfl rfl rfl hd kk
theorem gf_X4_9 (C : Gd X G cc RX4 nL d ret mc ms) {j : Nat} (hj : j < 7) {l : Nat} (hl : l < 10) (hd : decode cc pc = .ok (.getfield 9, 3)) (kk : V X G mc ms Q σ (pc + 3) lc (.int (σ.1 64 j l) :: st)) : V X G mc ms Q σ pc lc (.ref (ad G 4 j l) :: st) := v_geti C 4 j l 0 64 (ok4 hj hl) rfl inA4 (by decide) (wA 103 (by decide +kernel) rfl) rfl rfl rfl hd kk
theorem gf_X4_39 (C : Gd X G cc RX4 nL d ret mc ms) {j : Nat} (hj : j < 7) {l : Nat} (hl : l < 10) (hd : decode cc pc = .ok (.getfield 39, 3)) (kk : V X G mc ms Q σ (pc + 3) lc (.int (σ.1 73 j l) :: st)) : V X G mc ms Q σ pc lc (.ref (ad G 4 j l) :: st) := v_geti C 4 j l 9 73 (ok4 hj hl) rfl inA4 (by decide) (wA 127 (by decide +kernel) rfl) rfl rfl rfl hd kk
theorem pf_X5_36 (C : Gd X G cc RX5 nL d ret mc ms) {j : Nat} (hj : j < 7) {v : Int32} (hd : decode cc pc = .ok (.putfield 36, 3)) (kk : V X G mc ms Q (up σ 84 j 0 v) (pc + 3) lc st) : V X G mc ms Q σ pc lc (.int v :: .ref (ad G 5 j 0) :: st) := v_puti C 5 j 0 4 84 (ty := .int) tyX5 (ok5 hj) rfl inA5 tyX5_ok nmX5 (by decide) (wA 211 (by decide +kernel) rfl) rfl rfl (by decide +kernel) rfl rfl (by decide) (by decide) rfl (Nat.le_of_ble_eq_true rfl) (by simp [cE, up]) hd kk
theorem pf_X5_40 (C : Gd X G cc RX5 nL d ret mc ms) {j : Nat} (hj : j < 7) {v : Int32} (hd : decode cc pc = .ok (.putfield 40, 3)) (kk : V X G mc ms Q (up σ 85 j 0 v) (pc + 3) lc st) : V X G mc ms Q σ pc lc (.int v :: .ref (ad G 5 j 0) :: st) := v_puti C 5 j 0 5 85 (ty := .int) tyX5 (ok5 hj) rfl inA5 tyX5_ok nmX5 (by decide) (wA 214 (by decide +kernel) rfl) rfl rfl (by decide +kernel) rfl rfl (by decide) (by decide) rfl (Nat.le_of_ble_eq_true rfl) (by simp [cE, up]) hd kk
theorem pf_X5_43 (C : Gd X G cc RX5 nL d ret mc ms) {j : Nat} (hj : j < 7) {v : Int32} (hd : decode cc pc = .ok (.putfield 43, 3)) (kk : V X G mc ms Q (up σ 86 j 0 v) (pc + 3) lc st) : V X G mc ms Q σ pc lc (.int v :: .ref (ad G 5 j 0) :: st) := v_puti C 5 j 0 6 86 (ty := .int) tyX5 (ok5 hj) rfl inA5 tyX5_ok nmX5 (by decide) (wA 216 (by decide +kernel) rfl) rfl rfl (by decide +kernel) rfl rfl (by decide) (by decide) rfl (Nat.le_of_ble_eq_true rfl) (by simp [cE, up]) hd kk
theorem pf_X5_46 (C : Gd X G cc RX5 nL d ret mc ms) {j : Nat} (hj : j < 7) {v : Int32} (hd : decode cc pc = .ok (.putfield 46, 3)) (kk : V X G mc ms Q (up σ 87 j 0 v) (pc + 3) lc st) : V X G mc ms Q σ pc lc (.int v :: .ref (ad G 5 j 0) :: st) := v_puti C 5 j 0 7 87 (ty := .int) tyX5 (ok5 hj) rfl inA5 tyX5_ok nmX5 (by decide) (wA 219 (by decide +kernel) rfl) rfl rfl (by decide +kernel) rfl rfl (by decide) (by decide) rfl (Nat.le_of_ble_eq_true rfl) (by simp [cE, up]) hd kk
theorem pf_X5_49 (C : Gd X G cc RX5 nL d ret mc ms) {j : Nat} (hj : j < 7) {v : Int32} (hd : decode cc pc = .ok (.putfield 49, 3)) (kk : V X G mc ms Q (up σ 88 j 0 v) (pc + 3) lc st) : V X G mc ms Q σ pc lc (.int v :: .ref (ad G 5 j 0) :: st) := v_puti C 5 j 0 8 88 (ty := .int) tyX5 (ok5 hj) rfl inA5 tyX5_ok nmX5 (by decide) (wA 221 (by decide +kernel) rfl) rfl rfl (by decide +kernel) rfl rfl (by decide) (by decide) rfl (Nat.le_of_ble_eq_true rfl) (by simp [cE, up]) hd kk
theorem pf_X5_52 (C : Gd X G cc RX5 nL d ret mc ms) {j : Nat} (hj : j < 7) {v : Int32} (hd : decode cc pc = .ok (.putfield 52, 3)) (kk : V X G mc ms Q (up σ 89 j 0 v) (pc + 3) lc st) : V X G mc ms Q σ pc lc (.int v :: .ref (ad G 5 j 0) :: st) := v_puti C 5 j 0 9 89 (ty := .int) tyX5 (ok5 hj) rfl inA5 tyX5_ok nmX5 (by decide) (wA 224 (by decide +kernel) rfl) rfl rfl (by decide +kernel) rfl rfl (by decide) (by decide) rfl (Nat.le_of_ble_eq_true rfl) (by simp [cE, up]) hd kk
theorem gf_X5_11 (C : Gd X G cc RX5 nL d ret mc ms) {j : Nat} (hj : j < 7) (hd : decode cc pc = .ok (.getfield 11, 3)) (kk : V X G mc ms Q σ (pc + 3) lc (.ref (ad G 11 j 0) :: st)) : V X G mc ms Q σ pc lc (.ref (ad G 5 j 0) :: st) := v_getr C 5 j 0 0 (ad G 11 j 0) (ok5 hj) rfl inA5 (by decide) (wA 200 (by decide +kernel) rfl) rfl rfl rfl hd kk
theorem gf_X5_19 (C : Gd X G cc RX5 nL d ret mc ms) {j : Nat} (hj : j < 7) (hd : decode cc pc = .ok (.getfield 19, 3)) (kk : V X G mc ms Q σ (pc + 3) lc (.ref (ad G 12 j 0) :: st)) : V X G mc ms Q σ pc lc (.ref (ad G 5 j 0) :: st) := v_getr C 5 j 0 1 (ad G 12 j 0) (ok5 hj) rfl inA5 (by decide) (wA 203 (by decide +kernel) rfl) rfl rfl rfl hd kk
theorem gf_X5_25 (C : Gd X G cc RX5 nL d ret mc ms) {j : Nat} (hj : j < 7) (hd : decode cc pc = .ok (.getfield 25, 3)) (kk : V X G mc ms Q σ (pc + 3) lc (.ref (ad G 13 j 0) :: st)) : V X G mc ms Q σ pc lc (.ref (ad G 5 j 0) :: st) := v_getr C 5 j 0 2 (ad G 13 j 0) (ok5 hj) rfl inA5 (by decide) (wA 206 (by decide +kernel) rfl) rfl rfl rfl hd kk
theorem gf_X5_33 (C : Gd X G cc RX5 nL d ret mc ms) {j : Nat} (hj : j < 7) (hd : decode cc pc = .ok (.getfield 33, 3)) (kk : V X G mc ms Q σ (pc + 3) lc (.ref (ad G 14 j 0) :: st)) : V X G mc ms Q σ pc lc (.ref (ad G 5 j 0) :: st) := v_getr C 5 j 0 3 (ad G 14 j 0) (ok5 hj) rfl inA5 (by decide) (wA 209 (by decide +kernel) rfl) rfl rfl rfl hd kk
theorem gf_X5_36 (C : Gd X G cc RX5 nL d ret mc ms) {j : Nat} (hj : j < 7) (hd : decode cc pc = .ok (.getfield 36, 3)) (kk : V X G mc ms Q σ (pc + 3) lc (.int (σ.1 84 j 0) :: st)) : V X G mc ms Q σ pc lc (.ref (ad G 5 j 0) :: st) := v_geti C 5 j 0 4 84 (ok5 hj) rfl inA5 (by decide) (wA 211 (by decide +kernel) rfl) rfl rfl rfl hd kk
theorem gf_X5_40 (C : Gd X G cc RX5 nL d ret mc ms) {j : Nat} (hj : j < 7) (hd : decode cc pc = .ok (.getfield 40, 3)) (kk : V X G mc ms Q σ (pc + 3) lc (.int (σ.1 85 j 0) :: st)) : V X G mc ms Q σ pc lc (.ref (ad G 5 j 0) :: st) := v_geti C 5 j 0 5 85 (ok5 hj) rfl inA5 (by decide) (wA 214 (by decide +kernel) rfl) rfl rfl rfl hd kk
theorem gf_X5_43 (C : Gd X G cc RX5 nL d ret mc ms) {j : Nat} (hj : j < 7) (hd : decode cc pc = .ok (.getfield 43, 3)) (kk : V X G mc ms Q σ (pc + 3) lc (.int (σ.1 86 j 0) :: st)) : V X G mc ms Q σ pc lc (.ref (ad G 5 j 0) :: st) := v_geti C 5 j 0 6 86 (ok5 hj) rfl inA5 (by decide) (wA 216 (by decide +kernel) rfl) rfl rfl rfl hd kk
theorem gf_X5_46 (C : Gd X G cc RX5 nL d ret mc ms) {j : Nat} (hj : j < 7) (hd : decode cc pc = .ok (.getfield 46, 3)) (kk : V X G mc ms Q σ (pc + 3) lc (.int (σ.1 87 j 0) :: st)) : V X G mc ms Q σ pc lc (.ref (ad G 5 j 0) :: st) := v_geti C 5 j 0 7 87 (ok5 hj) rfl inA5 (by decide) (wA 219 (by decide +kernel) rfl) rfl rfl rfl hd kk
theorem gf_X5_49 (C : Gd X G cc RX5 nL d ret mc ms) {j : Nat} (hj : j < 7) (hd : decode cc pc = .ok (.getfield 49, 3)) (kk : V X G mc ms Q σ (pc + 3) lc (.int (σ.1 88 j 0) :: st)) : V X G mc ms Q σ pc lc (.ref (ad G 5 j 0) :: st) := v_geti C 5 j 0 8 88 (ok5 hj) rfl inA5 (by decide) (wA 221 (by decide +kernel) rfl) rfl rfl rfl hd kk
theorem gf_X5_52 (C : Gd X G cc RX5 nL d ret mc ms) {j : Nat} (hj : j < 7) (hd : decode cc pc = .ok (.getfield 52, 3)) (kk : V X G mc ms Q σ (pc + 3) lc (.int (σ.1 89 j 0) :: st)) : V X G mc ms Q σ pc lc (.ref (ad G 5 j 0) :: st) := v_geti C 5 j 0 9 89 (ok5 hj) rfl inA5 (by decide) (wA 224 (by decide +kernel) rfl) rfl rfl rfl hd kk
theorem gf_X5_72 (C : Gd X G cc RX5 nL d ret mc ms) {j : Nat} (hj : j < 7) {l : Nat} (hl : l < 10) (hd : decode cc pc = .ok (.getfield 72, 3)) (kk : V X G mc ms Q σ (pc + 3) lc (.int (σ.1 64 j l) :: st)) : V X G mc ms Q σ pc lc (.ref (ad G 4 j l) :: st) := v_geti C 4 j l 0 64 (ok4 hj hl) rfl inA4 (by decide) (wA 104 (by decide +kernel) rfl) rfl rfl rfl hd kk
theorem gf_X5_78 (C : Gd X G cc RX5 nL d ret mc ms) {j : Nat} (hj : j < 7) {l : Nat} (hl : l < 8) (hd : decode cc pc = .ok (.getfield 78, 3)) (kk : V X G mc ms Q σ (pc + 3) lc (.int (σ.1 48 j l) :: st)) : V X G mc ms Q σ pc lc (.ref (ad G 3 j l) :: st) := v_geti C 3 j l 0 48 (ok3 hj hl) rfl inA3 (by decide) (wA 83 (by decide +kernel) rfl) rfl rfl rfl hd kk
theorem pf_X5_78 (C : Gd X G cc RX5 nL d ret mc ms) {j : Nat} (hj : j < 7) {l : Nat} (hl : l < 8) {v : Int32} (hd : decode cc pc = .ok (.putfield 78, 3)) (kk : V X G mc ms Q (up σ 48 j l v) (pc + 3) lc st) : V X G mc ms Q σ pc lc (.int v :: .ref (ad G 3 j l) :: st) := v_puti C 3 j l 0 48 (ty := .int) tyX3 (ok3 hj hl) rfl inA3 tyX3_ok nmX3 (by decide) (wA 83 (by decide +kernel) rfl) rfl rfl (by decide +kernel) rfl rfl (by decide) (by decide) rfl (Nat.le_of_ble_eq_true rfl) (by simp [cE, up]) hd kk
theorem gf_X5_101 (C : Gd X G cc RX5 nL d ret mc ms) {j : Nat} (hj : j < 7) {l : Nat} (hl : l < 10) (hd : decode cc pc = .ok (.getfield 101, 3)) (kk : V X G mc ms Q σ (pc + 3) lc (.int (σ.1 73 j l) :: st)) : V X G mc ms Q σ pc lc (.ref (ad G 4 j l) :: st) := v_geti C 4 j l 9 73 (ok4 hj hl) rfl inA4 (by decide) (wA 128 (by decide +kernel) rfl) rfl rfl rfl hd kk
theorem gf_X5_107 (C : Gd X G cc RX5 nL d ret mc ms) (hd : decode cc pc = .ok (.getfield 107, 3)) (kk : V X G mc ms Q σ (pc + 3) lc (.int (σ.1 112 0 0) :: st)) : V X G mc ms Q σ pc lc (.ref (ad G 7 0 0) :: st) := v_geti C 7 0 0 0 112 (ok7) rfl inA7 (by decide) (wA 320 (by decide +kernel) rfl) rfl rfl rfl hd kk
theorem gf_X5_112 (C : Gd X G cc RX5 nL d ret mc ms) (hd : decode cc pc = .ok (.getfield 112, 3)) (kk : V X G mc ms Q σ (pc + 3) lc (.int (σ.1 114 0 0) :: st)) : V X G mc ms Q σ pc lc (.ref (ad G 7 0 0) :: st) := v_geti C 7 0 0 2 114 (ok7) rfl inA7 (by decide) (wA 328 (by decide +kernel) rfl) rfl rfl rfl hd kk
theorem gf_X5_115 (C : Gd X G cc RX5 nL d ret mc ms) (hd : decode cc pc = .ok (.getfield 115, 3)) (kk : V X G mc ms Q σ (pc + 3) lc (.int (σ.1 113 0 0) :: st)) : V X G mc ms Q σ pc lc (.ref (ad G 7 0 0) :: st) := v_geti C 7 0 0 1 113 (ok7) rfl inA7 (by decide) (wA 324 (by decide +kernel) rfl) rfl rfl rfl hd kk
theorem gf_X5_118 (C : Gd X G cc RX5 nL d ret mc ms) (hd : decode cc pc = .ok (.getfield 118, 3)) (kk : V X G mc ms Q σ (pc + 3) lc (.int (σ.1 115 0 0) :: st)) : V X G mc ms Q σ pc lc (.ref (ad G 7 0 0) :: st) := v_geti C 7 0 0 3 115 (ok7) rfl inA7 (by decide) (wA 331 (by decide +kernel) rfl) rfl rfl rfl hd kk
theorem gf_X5_124 (C : Gd X G cc RX5 nL d ret mc ms) {j : Nat} (hj : j < 7) {l : Nat} (hl : l < 60) (hd : decode cc pc = .ok (.getfield 124, 3)) (kk : V X G mc ms Q σ (pc + 3) lc (.int (σ.1 97 j l) :: st)) : V X G mc ms Q σ pc lc (.ref (ad G 6 j l) :: st) := v_geti C 6 j l 1 97 (ok6 hj hl) rfl inA6 (by decide) (wA 167 (by decide +kernel) rfl) rfl rfl rfl hd kk
theorem gf_X5_127 (C : Gd X G cc RX5 nL d ret mc ms) {j : Nat} (hj : j < 7) {l : Nat} (hl : l < 60) (hd : decode cc pc = .ok (.getfield 127, 3)) (kk : V X G mc ms Q σ (pc + 3) lc (.int (σ.1 99 j l) :: st)) : V X G mc ms Q σ pc lc (.ref (ad G 6 j l) :: st) := v_geti C 6 j l 3 99 (ok6 hj hl) rfl inA6 (by decide) (wA 175 (by decide +kernel) rfl) rfl rfl rfl hd kk
theorem pf_X5_128 (C : Gd X G cc RX5 nL d ret mc ms) {j : Nat} (hj : j < 7) {l : Nat} (hl : l < 60) {v : Int32} (hd : decode cc pc = .ok (.putfield 128, 3)) (kk : V X G mc ms Q (up σ 102 j l v) (pc + 3) lc st) : V X G mc ms Q σ pc lc (.int v :: .ref (ad G 6 j l) :: st) := v_puti C 6 j l 6 102 (ty := .int) tyX6 (ok6 hj hl) rfl inA6 tyX6_ok nmX6 (by decide) (wA 183 (by decide +kernel) rfl) rfl rfl (by decide +kernel) rfl rfl (by decide) (by decide) rfl (Nat.le_of_ble_eq_true rfl) (by simp [cE, up]) hd kk
theorem pf_X5_127 (C : Gd X G cc RX5 nL d ret mc ms) {j : Nat} (hj : j < 7) {l : Nat} (hl : l < 60) {v : Int32} (hd : decode cc pc = .ok (.putfield 127, 3)) (kk : V X G mc ms Q (up σ 99 j l v) (pc + 3) lc st) : V X G mc ms Q σ pc lc (.int v :: .ref (ad G 6 j l) :: st) := v_puti C 6 j l 3 99 (ty := .int) tyX6 (ok6 hj hl) rfl inA6 tyX6_ok nmX6 (by decide) (wA 175 (by decide +kernel) rfl) rfl rfl (by decide +kernel) rfl rfl (by decide) (by decide) rfl (Nat.le_of_ble_eq_true rfl) (by simp [cE, up]) hd kk
theorem gf_X5_128 (C : Gd X G cc RX5 nL d ret mc ms) {j : Nat} (hj : j < 7) {l : Nat} (hl : l < 60) (hd : decode cc pc = .ok (.getfield 128, 3)) (kk : V X G mc ms Q σ (pc + 3) lc (.int (σ.1 102 j l) :: st)) : V X G mc ms Q σ pc lc (.ref (ad G 6 j l) :: st) := v_geti C 6 j l 6 102 (ok6 hj hl) rfl inA6 (by decide) (wA 183 (by decide +kernel) rfl) rfl rfl rfl hd kk
theorem gf_X5_131 (C : Gd X G cc RX5 nL d ret mc ms) {j : Nat} (hj : j < 7) {l : Nat} (hl : l < 60) (hd : decode cc pc = .ok (.getfield 131, 3)) (kk : V X G mc ms Q σ (pc + 3) lc (.int (σ.1 96 j l) :: st)) : V X G mc ms Q σ pc lc (.ref (ad G 6 j l) :: st) := v_geti C 6 j l 0 96 (ok6 hj hl) rfl inA6 (by decide) (wA 164 (by decide +kernel) rfl) rfl rfl rfl hd kk
theorem gf_X5_134 (C : Gd X G cc RX5 nL d ret mc ms) {j : Nat} (hj : j < 7) {l : Nat} (hl : l < 8) (hd : decode cc pc = .ok (.getfield 134, 3)) (kk : V X G mc ms Q σ (pc + 3) lc (.int (σ.1 50 j l) :: st)) : V X G mc ms Q σ pc lc (.ref (ad G 3 j l) :: st) := v_geti C 3 j l 2 50 (ok3 hj hl) rfl inA3 (by decide) (wA 88 (by decide +kernel) rfl) rfl rfl rfl hd kk
theorem pf_X5_134 (C : Gd X G cc RX5 nL d ret mc ms) {j : Nat} (hj : j < 7) {l : Nat} (hl : l < 8) {v : Int32} (hd : decode cc pc = .ok (.putfield 134, 3)) (kk : V X G mc ms Q (up σ 50 j l v) (pc + 3) lc st) : V X G mc ms Q σ pc lc (.int v :: .ref (ad G 3 j l) :: st) := v_puti C 3 j l 2 50 (ty := .int) tyX3 (ok3 hj hl) rfl inA3 tyX3_ok nmX3 (by decide) (wA 88 (by decide +kernel) rfl) rfl rfl (by decide +kernel) rfl rfl (by decide) (by decide) rfl (Nat.le_of_ble_eq_true rfl) (by simp [cE, up]) hd kk
theorem gf_X5_143 (C : Gd X G cc RX5 nL d ret mc ms) {j : Nat} (hj : j < 7) {l : Nat} (hl : l < 10) (hd : decode cc pc = .ok (.getfield 143, 3)) (kk : V X G mc ms Q σ (pc + 3) lc (.int (σ.1 65 j l) :: st)) : V X G mc ms Q σ pc lc (.ref (ad G 4 j l) :: st) := v_geti C 4 j l 1 65 (ok4 hj hl) rfl inA4 (by decide) (wA 107 (by decide +kernel) rfl) rfl rfl rfl hd kk
theorem gf_X5_150 (C : Gd X G cc RX5 nL d ret mc ms) {j : Nat} (hj : j < 7) {l : Nat} (hl : l < 60) (hd : decode cc pc = .ok (.getfield 150, 3)) (kk : V X G mc ms Q σ (pc + 3) lc (.int (σ.1 98 j l) :: st)) : V X G mc ms Q σ pc lc (.ref (ad G 6 j l) :: st) := v_geti C 6 j l 2 98 (ok6 hj hl) rfl inA6 (by decide) (wA 171 (by decide +kernel) rfl) rfl rfl rfl hd kk
theorem gf_X5_153 (C : Gd X G cc RX5 nL d ret mc ms) {j : Nat} (hj : j < 7) {l : Nat} (hl : l < 10) (hd : decode cc pc = .ok (.getfield 153, 3)) (kk : V X G mc ms Q σ (pc + 3) lc (.int (σ.1 72 j l) :: st)) : V X G mc ms Q σ pc lc (.ref (ad G 4 j l) :: st) := v_geti C 4 j l 8 72 (ok4 hj hl) rfl inA4 (by decide) (wA 125 (by decide +kernel) rfl) rfl rfl rfl hd kk
theorem gf_X5_156 (C : Gd X G cc RX5 nL d ret mc ms) {j : Nat} (hj : j < 7) {l : Nat} (hl : l < 10) (hd : decode cc pc = .ok (.getfield 156, 3)) (kk : V X G mc ms Q σ (pc + 3) lc (.int (σ.1 74 j l) :: st)) : V X G mc ms Q σ pc lc (.ref (ad G 4 j l) :: st) := v_geti C 4 j l 10 74 (ok4 hj hl) rfl inA4 (by decide) (wA 132 (by decide +kernel) rfl) rfl rfl rfl hd kk
theorem gf_X5_159 (C : Gd X G cc RX5 nL d ret mc ms) {j : Nat} (hj : j < 7) {l : Nat} (hl : l < 10) (hd : decode cc pc = .ok (.getfield 159, 3)) (kk : V X G mc ms Q σ (pc + 3) lc (.int (σ.1 68 j l) :: st)) : V X G mc ms Q σ pc lc (.ref (ad G 4 j l) :: st) := v_geti C 4 j l 4 68 (ok4 hj hl) rfl inA4 (by decide) (wA 114 (by decide +kernel) rfl) rfl rfl rfl hd kk
theorem gf_X5_160 (C : Gd X G cc RX5 nL d ret mc ms) {j : Nat} (hj : j < 7) {l : Nat} (hl : l < 10) (hd : decode cc pc = .ok (.getfield 160, 3)) (kk : V X G mc ms Q σ (pc + 3) lc (.int (σ.1 70 j l) :: st)) : V X G mc ms Q σ pc lc (.ref (ad G 4 j l) :: st) := v_geti C 4 j l 6 70 (ok4 hj hl) rfl inA4 (by decide) (wA 120 (by decide +kernel) rfl) rfl rfl rfl hd kk
theorem pf_X6_7 (C : Gd X G cc RX6 nL d ret mc ms) {j : Nat} (hj : j < 7) {l : Nat} (hl : l < 60) {v : Int32} (hd : decode cc pc = .ok (.putfield 7, 3)) (kk : V X G mc ms Q (up σ 96 j l v) (pc + 3) lc st) : V X G mc ms Q σ pc lc (.int v :: .ref (ad G 6 j l) :: st) := v_puti C 6 j l 0 96 (ty := .int) tyX6 (ok6 hj hl) rfl inA6 tyX6_ok nmX6 (by decide) (wA 161 (by decide +kernel) rfl) rfl rfl (by decide +kernel) rfl rfl (by decide) (by decide) rfl (Nat.le_of_ble_eq_true rfl) (by simp [cE, up]) hd kk
theorem pf_X6_13 (C : Gd X G cc RX6 nL d ret mc ms) {j : Nat} (hj : j < 7) {l : Nat} (hl : l < 60) {v : Int32} (hd : decode cc pc = .ok (.putfield 13, 3)) (kk : V X G mc ms Q (up σ 97 j l v) (pc + 3) lc st) : V X G mc ms Q σ pc lc (.int v :: .ref (ad G 6 j l) :: st) := v_puti C 6 j l 1 97 (ty := .int) tyX6 (ok6 hj hl) rfl inA6 tyX6_ok nmX6 (by decide) (wA 165 (by decide +kernel) rfl) rfl rfl (by decide +kernel) rfl rfl (by decide) (by decide) rfl (Nat.le_of_ble_eq_true rfl) (by simp [cE, up]) hd kk
theorem pf_X6_16 (C : Gd X G cc RX6 nL d ret mc ms) {j : Nat} (hj : j < 7) {l : Nat} (hl : l < 60) {v : Int32} (hd : decode cc pc = .ok (.putfield 16, 3)) (kk : V X G mc ms Q (up σ 98 j l v) (pc + 3) lc st) : V X G mc ms Q σ pc lc (.int v :: .ref (ad G 6 j l) :: st) := v_puti C 6 j l 2 98 (ty := .int) tyX6 (ok6 hj hl) rfl inA6 tyX6_ok nmX6 (by decide) (wA 169 (by decide +kernel) rfl) rfl rfl (by decide +kernel) rfl rfl (by decide) (by decide) rfl (Nat.le_of_ble_eq_true rfl) (by simp [cE, up]) hd kk
theorem pf_X6_19 (C : Gd X G cc RX6 nL d ret mc ms) {j : Nat} (hj : j < 7) {l : Nat} (hl : l < 60) {v : Int32} (hd : decode cc pc = .ok (.putfield 19, 3)) (kk : V X G mc ms Q (up σ 99 j l v) (pc + 3) lc st) : V X G mc ms Q σ pc lc (.int v :: .ref (ad G 6 j l) :: st) := v_puti C 6 j l 3 99 (ty := .int) tyX6 (ok6 hj hl) rfl inA6 tyX6_ok nmX6 (by decide) (wA 173 (by decide +kernel) rfl) rfl rfl (by decide +kernel) rfl rfl (by decide) (by decide) rfl (Nat.le_of_ble_eq_true rfl) (by simp [cE, up]) hd kk
theorem pf_X6_22 (C : Gd X G cc RX6 nL d ret mc ms) {j : Nat} (hj : j < 7) {l : Nat} (hl : l < 60) {v : Int32} (hd : decode cc pc = .ok (.putfield 22, 3)) (kk : V X G mc ms Q (up σ 100 j l v) (pc + 3) lc st) : V X G mc ms Q σ pc lc (.int v :: .ref (ad G 6 j l) :: st) := v_puti C 6 j l 4 100 (ty := .int) tyX6 (ok6 hj hl) rfl inA6 tyX6_ok nmX6 (by decide) (wA 177 (by decide +kernel) rfl) rfl rfl (by decide +kernel) rfl rfl (by decide) (by decide) rfl (Nat.le_of_ble_eq_true rfl) (by simp [cE, up]) hd kk
theorem pf_X6_25 (C : Gd X G cc RX6 nL d ret mc ms) {j : Nat} (hj : j < 7) {l : Nat} (hl : l < 60) {v : Int32} (hd : decode cc pc = .ok (.putfield 25, 3)) (kk : V X G mc ms Q (up σ 101 j l v) (pc + 3) lc st) : V X G mc ms Q σ pc lc (.int v :: .ref (ad G 6 j l) :: st) := v_puti C 6 j l 5 101 (ty := .int) tyX6 (ok6 hj hl) rfl inA6 tyX6_ok nmX6 (by decide) (wA 179 (by decide +kernel) rfl) rfl rfl (by decide +kernel) rfl rfl (by decide) (by decide) rfl (Nat.le_of_ble_eq_true rfl) (by simp [cE, up]) hd kk
theorem pf_X6_28 (C : Gd X G cc RX6 nL d ret mc ms) {j : Nat} (hj : j < 7) {l : Nat} (hl : l < 60) {v : Int32} (hd : decode cc pc = .ok (.putfield 28, 3)) (kk : V X G mc ms Q (up σ 102 j l v) (pc + 3) lc st) : V X G mc ms Q σ pc lc (.int v :: .ref (ad G 6 j l) :: st) := v_puti C 6 j l 6 102 (ty := .int) tyX6 (ok6 hj hl) rfl inA6 tyX6_ok nmX6 (by decide) (wA 182 (by decide +kernel) rfl) rfl rfl (by decide +kernel) rfl rfl (by decide) (by decide) rfl (Nat.le_of_ble_eq_true rfl) (by simp [cE, up]) hd kk
theorem gf_X6_7 (C : Gd X G cc RX6 nL d ret mc ms) {j : Nat} (hj : j < 7) {l : Nat} (hl : l < 60) (hd : decode cc pc = .ok (.getfield 7, 3)) (kk : V X G mc ms Q σ (pc + 3) lc (.int (σ.1 96 j l) :: st)) : V X G mc ms Q σ pc lc (.ref (ad G 6 j l) :: st) := v_geti C 6 j l 0 96 (ok6 hj hl) rfl inA6 (by decide) (wA 161 (by decide +kernel) rfl) rfl rfl rfl hd kk
theorem gf_X6_13 (C : Gd X G cc RX6 nL d ret mc ms) {j : Nat} (hj : j < 7) {l : Nat} (hl : l < 60) (hd : decode cc pc = .ok (.getfield 13, 3)) (kk : V X G mc ms Q σ (pc + 3) lc (.int (σ.1 97 j l) :: st)) : V X G mc ms Q σ pc lc (.ref (ad G 6 j l) :: st) := v_geti C 6 j l 1 97 (ok6 hj hl) rfl inA6 (by decide) (wA 165 (by decide +kernel) rfl) rfl rfl rfl hd kk
theorem gf_X6_16 (C : Gd X G cc RX6 nL d ret mc ms) {j : Nat} (hj : j < 7) {l : Nat} (hl : l < 60) (hd : decode cc pc = .ok (.getfield 16, 3)) (kk : V X G mc ms Q σ (pc + 3) lc (.int (σ.1 98 j l) :: st)) : V X G mc ms Q σ pc lc (.ref (ad G 6 j l) :: st) := v_geti C 6 j l 2 98 (ok6 hj hl) rfl inA6 (by decide) (wA 169 (by decide +kernel) rfl) rfl rfl rfl hd kk
theorem gf_X6_19 (C : Gd X G cc RX6 nL d ret mc ms) {j : Nat} (hj : j < 7) {l : Nat} (hl : l < 60) (hd : decode cc pc = .ok (.getfield 19, 3)) (kk : V X G mc ms Q σ (pc + 3) lc (.int (σ.1 99 j l) :: st)) : V X G mc ms Q σ pc lc (.ref (ad G 6 j l) :: st) := v_geti C 6 j l 3 99 (ok6 hj hl) rfl inA6 (by decide) (wA 173 (by decide +kernel) rfl) rfl rfl rfl hd kk
theorem gf_X6_22 (C : Gd X G cc RX6 nL d ret mc ms) {j : Nat} (hj : j < 7) {l : Nat} (hl : l < 60) (hd : decode cc pc = .ok (.getfield 22, 3)) (kk : V X G mc ms Q σ (pc + 3) lc (.int (σ.1 100 j l) :: st)) : V X G mc ms Q σ pc lc (.ref (ad G 6 j l) :: st) := v_geti C 6 j l 4 100 (ok6 hj hl) rfl inA6 (by decide) (wA 177 (by decide +kernel) rfl) rfl rfl rfl hd kk
theorem gf_X6_25 (C : Gd X G cc RX6 nL d ret mc ms) {j : Nat} (hj : j < 7) {l : Nat} (hl : l < 60) (hd : decode cc pc = .ok (.getfield 25, 3)) (kk : V X G mc ms Q σ (pc + 3) lc (.int (σ.1 101 j l) :: st)) : V X G mc ms Q σ pc lc (.ref (ad G 6 j l) :: st) := v_geti C 6 j l 5 101 (ok6 hj hl) rfl inA6 (by decide) (wA 179 (by decide +kernel) rfl) rfl rfl rfl hd kk
theorem gf_X6_28 (C : Gd X G cc RX6 nL d ret mc ms) {j : Nat} (hj : j < 7) {l : Nat} (hl : l < 60) (hd : decode cc pc = .ok (.getfield 28, 3)) (kk : V X G mc ms Q σ (pc + 3) lc (.int (σ.1 102 j l) :: st)) : V X G mc ms Q σ pc lc (.ref (ad G 6 j l) :: st) := v_geti C 6 j l 6 102 (ok6 hj hl) rfl inA6 (by decide) (wA 182 (by decide +kernel) rfl) rfl rfl rfl hd kk
theorem gf_X7_15 (C : Gd X G cc RX7 nL d ret mc ms) {j : Nat} (hj : j < 7) (hd : decode cc pc = .ok (.getfield 15, 3)) (kk : V X G mc ms Q σ (pc + 3) lc (.ref (ad G 12 j 0) :: st)) : V X G mc ms Q σ pc lc (.ref (ad G 5 j 0) :: st) := v_getr C 5 j 0 1 (ad G 12 j 0) (ok5 hj) rfl inA5 (by decide) (wA 204 (by decide +kernel) rfl) rfl rfl rfl hd kk
theorem gf_X7_19 (C : Gd X G cc RX7 nL d ret mc ms) {j : Nat} (hj : j < 7) {l : Nat} (hl : l < 10) (hd : decode cc pc = .ok (.getfield 19, 3)) (kk : V X G mc ms Q σ (pc + 3) lc (.int (σ.1 73 j l) :: st)) : V X G mc ms Q σ pc lc (.ref (ad G 4 j l) :: st) := v_geti C 4 j l 9 73 (ok4 hj hl) rfl inA4 (by decide) (wA 126 (by decide +kernel) rfl) rfl rfl rfl hd kk
theorem pf_X7_29 (C : Gd X G cc RX7 nL d ret mc ms) {v : Int32} (hd : decode cc pc = .ok (.putfield 29, 3)) (kk : V X G mc ms Q (up σ 112 0 0 v) (pc + 3) lc st) : V X G mc ms Q σ pc lc (.int v :: .ref (ad G 7 0 0) :: st) := v_puti C 7 0 0 0 112 (ty := .int) tyX7 (ok7) rfl inA7 tyX7_ok nmX7 (by decide) (wA 319 (by decide +kernel) rfl) rfl rfl (by decide +kernel) rfl rfl (by decide) (by decide) rfl (Nat.le_of_ble_eq_true rfl) (by simp [cE, up]) hd kk
theorem gf_X7_29 (C : Gd X G cc RX7 nL d ret mc ms) (hd : decode cc pc = .ok (.getfield 29, 3)) (kk : V X G mc ms Q σ (pc + 3) lc (.int (σ.1 112 0 0) :: st)) : V X G mc ms Q σ pc lc (.ref (ad G 7 0 0) :: st) := v_geti C 7 0 0 0 112 (ok7) rfl inA7 (by decide) (wA 319 (by decide +kernel) rfl) rfl rfl rfl hd kk
theorem gf_X7_34 (C : Gd X G cc RX7 nL d ret mc ms) {j : Nat} (hj : j < 7) {l : Nat} (hl : l < 10) (hd : decode cc pc = .ok (.getfield 34, 3)) (kk : V X G mc ms Q σ (pc + 3) lc (.int (σ.1 70 j l) :: st)) : V X G mc ms Q σ pc lc (.ref (ad G 4 j l) :: st) := v_geti C 4 j l 6 70 (ok4 hj hl) rfl inA4 (by decide) (wA 118 (by decide +kernel) rfl) rfl rfl rfl hd kk
theorem gf_X7_37 (C : Gd X G cc RX7 nL d ret mc ms) {j : Nat} (hj : j < 7) {l : Nat} (hl : l < 10) (hd : decode cc pc = .ok (.getfield 37, 3)) (kk : V X G mc ms Q σ (pc + 3) lc (.int (σ.1 68 j l) :: st)) : V X G mc ms Q σ pc lc (.ref (ad G 4 j l) :: st) := v_geti C 4 j l 4 68 (ok4 hj hl) rfl inA4 (by decide) (wA 112 (by decide +kernel) rfl) rfl rfl rfl hd kk
theorem pf_X7_46 (C : Gd X G cc RX7 nL d ret mc ms) {v : Int32} (hd : decode cc pc = .ok (.putfield 46, 3)) (kk : V X G mc ms Q (up σ 113 0 0 v) (pc + 3) lc st) : V X G mc ms Q σ pc lc (.int v :: .ref (ad G 7 0 0) :: st) := v_puti C 7 0 0 1 113 (ty := .int) tyX7 (ok7) rfl inA7 tyX7_ok nmX7 (by decide) (wA 322 (by decide +kernel) rfl) rfl rfl (by decide +kernel) rfl rfl (by decide) (by decide) rfl (Nat.le_of_ble_eq_true rfl) (by simp [cE, up]) hd kk
theorem gf_X7_46 (C : Gd X G cc RX7 nL d ret mc ms) (hd : decode cc pc = .ok (.getfield 46, 3)) (kk : V X G mc ms Q σ (pc + 3) lc (.int (σ.1 113 0 0) :: st)) : V X G mc ms Q σ pc lc (.ref (ad G 7 0 0) :: st) := v_geti C 7 0 0 1 113 (ok7) rfl inA7 (by decide) (wA 322 (by decide +kernel) rfl) rfl rfl rfl hd kk
theorem gf_X7_49 (C : Gd X G cc RX7 nL d ret mc ms) {j : Nat} (hj : j < 7) (hd : decode cc pc = .ok (.getfield 49, 3)) (kk : V X G mc ms Q σ (pc + 3) lc (.int (σ.1 89 j 0) :: st)) : V X G mc ms Q σ pc lc (.ref (ad G 5 j 0) :: st) := v_geti C 5 j 0 9 89 (ok5 hj) rfl inA5 (by decide) (wA 225 (by decide +kernel) rfl) rfl rfl rfl hd kk
theorem pf_X7_52 (C : Gd X G cc RX7 nL d ret mc ms) {v : Int32} (hd : decode cc pc = .ok (.putfield 52, 3)) (kk : V X G mc ms Q (up σ 114 0 0 v) (pc + 3) lc st) : V X G mc ms Q σ pc lc (.int v :: .ref (ad G 7 0 0) :: st) := v_puti C 7 0 0 2 114 (ty := .int) tyX7 (ok7) rfl inA7 tyX7_ok nmX7 (by decide) (wA 326 (by decide +kernel) rfl) rfl rfl (by decide +kernel) rfl rfl (by decide) (by decide) rfl (Nat.le_of_ble_eq_true rfl) (by simp [cE, up]) hd kk
theorem pf_X7_55 (C : Gd X G cc RX7 nL d ret mc ms) {v : Int32} (hd : decode cc pc = .ok (.putfield 55, 3)) (kk : V X G mc ms Q (up σ 115 0 0 v) (pc + 3) lc st) : V X G mc ms Q σ pc lc (.int v :: .ref (ad G 7 0 0) :: st) := v_puti C 7 0 0 3 115 (ty := .int) tyX7 (ok7) rfl inA7 tyX7_ok nmX7 (by decide) (wA 330 (by decide +kernel) rfl) rfl rfl (by decide +kernel) rfl rfl (by decide) (by decide) rfl (Nat.le_of_ble_eq_true rfl) (by simp [cE, up]) hd kk
theorem gf_X7_55 (C : Gd X G cc RX7 nL d ret mc ms) (hd : decode cc pc = .ok (.getfield 55, 3)) (kk : V X G mc ms Q σ (pc + 3) lc (.int (σ.1 115 0 0) :: st)) : V X G mc ms Q σ pc lc (.ref (ad G 7 0 0) :: st) := v_geti C 7 0 0 3 115 (ok7) rfl inA7 (by decide) (wA 330 (by decide +kernel) rfl) rfl rfl rfl hd kk
theorem pf_X7_59 (C : Gd X G cc RX7 nL d ret mc ms) {v : Int32} (hd : decode cc pc = .ok (.putfield 59, 3)) (kk : V X G mc ms Q (up σ 116 0 0 v) (pc + 3) lc st) : V X G mc ms Q σ pc lc (.int v :: .ref (ad G 7 0 0) :: st) := v_puti C 7 0 0 4 116 (ty := .int) tyX7 (ok7) rfl inA7 tyX7_ok nmX7 (by decide) (wA 333 (by decide +kernel) rfl) rfl rfl (by decide +kernel) rfl rfl (by decide) (by decide) rfl (Nat.le_of_ble_eq_true rfl) (by simp [cE, up]) hd kk
theorem gf_X7_59 (C : Gd X G cc RX7 nL d ret mc ms) (hd : decode cc pc = .ok (.getfield 59, 3)) (kk : V X G mc ms Q σ (pc + 3) lc (.int (σ.1 116 0 0) :: st)) : V X G mc ms Q σ pc lc (.ref (ad G 7 0 0) :: st) := v_geti C 7 0 0 4 116 (ok7) rfl inA7 (by decide) (wA 333 (by decide +kernel) rfl) rfl rfl rfl hd kk
theorem pf_X7_62 (C : Gd X G cc RX7 nL d ret mc ms) {v : Int32} (hd : decode cc pc = .ok (.putfield 62, 3)) (kk : V X G mc ms Q (up σ 117 0 0 v) (pc + 3) lc st) : V X G mc ms Q σ pc lc (.int v :: .ref (ad G 7 0 0) :: st) := v_puti C 7 0 0 5 117 (ty := .int) tyX7 (ok7) rfl inA7 tyX7_ok nmX7 (by decide) (wA 336 (by decide +kernel) rfl) rfl rfl (by decide +kernel) rfl rfl (by decide) (by decide) rfl (Nat.le_of_ble_eq_true rfl) (by simp [cE, up]) hd kk
theorem gf_X8_15 (C : Gd X G cc RX8 nL d ret mc ms) (hd : decode cc pc = .ok (.getfield 15, 3)) (kk : V X G mc ms Q σ (pc + 3) lc (.ref (ad G 18 1 0) :: st)) : V X G mc ms Q σ pc lc (.ref (ad G 8 0 0) :: st) := v_getr C 8 0 0 1 (ad G 18 1 0) (ok8) rfl inA8 (by decide) (wA 359 (by decide +kernel) rfl) rfl rfl rfl hd kk
theorem gf_X8_18 (C : Gd X G cc RX8 nL d ret mc ms) (hd : decode cc pc = .ok (.getfield 18, 3)) (kk : V X G mc ms Q σ (pc + 3) lc (.ref (ad G 18 2 0) :: st)) : V X G mc ms Q σ pc lc (.ref (ad G 8 0 0) :: st) := v_getr C 8 0 0 2 (ad G 18 2 0) (ok8) rfl inA8 (by decide) (wA 360 (by decide +kernel) rfl) rfl rfl rfl hd kk
theorem gf_X8_28 (C : Gd X G cc RX8 nL d ret mc ms) (hd : decode cc pc = .ok (.getfield 28, 3)) (kk : V X G mc ms Q σ (pc + 3) lc (.int (σ.1 113 0 0) :: st)) : V X G mc ms Q σ pc lc (.ref (ad G 7 0 0) :: st) := v_geti C 7 0 0 1 113 (ok7) rfl inA7 (by decide) (wA 323 (by decide +kernel) rfl) rfl rfl rfl hd kk
theorem gf_X8_33 (C : Gd X G cc RX8 nL d ret mc ms) (hd : decode cc pc = .ok (.getfield 33, 3)) (kk : V X G mc ms Q σ (pc + 3) lc (.int (σ.1 114 0 0) :: st)) : V X G mc ms Q σ pc lc (.ref (ad G 7 0 0) :: st) := v_geti C 7 0 0 2 114 (ok7) rfl inA7 (by decide) (wA 327 (by decide +kernel) rfl) rfl rfl rfl hd kk
theorem gf_X8_9 (C : Gd X G cc RX8 nL d ret mc ms) (hd : decode cc pc = .ok (.getfield 9, 3)) (kk : V X G mc ms Q σ (pc + 3) lc (.ref (ad G 18 0 0) :: st)) : V X G mc ms Q σ pc lc (.ref (ad G 8 0 0) :: st) := v_getr C 8 0 0 0 (ad G 18 0 0) (ok8) rfl inA8 (by decide) (wA 358 (by decide +kernel) rfl) rfl rfl rfl hd kk
theorem gf_X8_40 (C : Gd X G cc RX8 nL d ret mc ms) (hd : decode cc pc = .ok (.getfield 40, 3)) (kk : V X G mc ms Q σ (pc + 3) lc (.int (σ.1 116 0 0) :: st)) : V X G mc ms Q σ pc lc (.ref (ad G 7 0 0) :: st) := v_geti C 7 0 0 4 116 (ok7) rfl inA7 (by decide) (wA 334 (by decide +kernel) rfl) rfl rfl rfl hd kk
theorem gf_X8_43 (C : Gd X G cc RX8 nL d ret mc ms) (hd : decode cc pc = .ok (.getfield 43, 3)) (kk : V X G mc ms Q σ (pc + 3) lc (.int (σ.1 117 0 0) :: st)) : V X G mc ms Q σ pc lc (.ref (ad G 7 0 0) :: st) := v_geti C 7 0 0 5 117 (ok7) rfl inA7 (by decide) (wA 337 (by decide +kernel) rfl) rfl rfl rfl hd kk
theorem gf_X8_61 (C : Gd X G cc RX8 nL d ret mc ms) {j : Nat} (hj : j < 7) (hd : decode cc pc = .ok (.getfield 61, 3)) (kk : V X G mc ms Q σ (pc + 3) lc (.int (σ.1 88 j 0) :: st)) : V X G mc ms Q σ pc lc (.ref (ad G 5 j 0) :: st) := v_geti C 5 j 0 8 88 (ok5 hj) rfl inA5 (by decide) (wA 222 (by decide +kernel) rfl) rfl rfl rfl hd kk
theorem gf_X8_67 (C : Gd X G cc RX8 nL d ret mc ms) {j : Nat} (hj : j < 7) (hd : decode cc pc = .ok (.getfield 67, 3)) (kk : V X G mc ms Q σ (pc + 3) lc (.int (σ.1 84 j 0) :: st)) : V X G mc ms Q σ pc lc (.ref (ad G 5 j 0) :: st) := v_geti C 5 j 0 4 84 (ok5 hj) rfl inA5 (by decide) (wA 213 (by decide +kernel) rfl) rfl rfl rfl hd kk
theorem gf_X8_70 (C : Gd X G cc RX8 nL d ret mc ms) {j : Nat} (hj : j < 7) (hd : decode cc pc = .ok (.getfield 70, 3)) (kk : V X G mc ms Q σ (pc + 3) lc (.ref (ad G 11 j 0) :: st)) : V X G mc ms Q σ pc lc (.ref (ad G 5 j 0) :: st) := v_getr C 5 j 0 0 (ad G 11 j 0) (ok5 hj) rfl inA5 (by decide) (wA 202 (by decide +kernel) rfl) rfl rfl rfl hd kk
theorem gf_X8_74 (C : Gd X G cc RX8 nL d ret mc ms) {j : Nat} (hj : j < 7) {l : Nat} (hl : l < 8) (hd : decode cc pc = .ok (.getfield 74, 3)) (kk : V X G mc ms Q σ (pc + 3) lc (.int (σ.1 48 j l) :: st)) : V X G mc ms Q σ pc lc (.ref (ad G 3 j l) :: st) := v_geti C 3 j l 0 48 (ok3 hj hl) rfl inA3 (by decide) (wA 82 (by decide +kernel) rfl) rfl rfl rfl hd kk
theorem gf_X8_79 (C : Gd X G cc RX8 nL d ret mc ms) {j : Nat} (hj : j < 7) (hd : decode cc pc = .ok (.getfield 79, 3)) (kk : V X G mc ms Q σ (pc + 3) lc (.int (σ.1 86 j 0) :: st)) : V X G mc ms Q σ pc lc (.ref (ad G 5 j 0) :: st) := v_geti C 5 j 0 6 86 (ok5 hj) rfl inA5 (by decide) (wA 217 (by decide +kernel) rfl) rfl rfl rfl hd kk
theorem gf_X8_82 (C : Gd X G cc RX8 nL d ret mc ms) {j : Nat} (hj : j < 7) (hd : decode cc pc = .ok (.getfield 82, 3)) (kk : V X G mc ms Q σ (pc + 3) lc (.ref (ad G 13 j 0) :: st)) : V X G mc ms Q σ pc lc (.ref (ad G 5 j 0) :: st) := v_getr C 5 j 0 2 (ad G 13 j 0) (ok5 hj) rfl inA5 (by decide) (wA 207 (by decide +kernel) rfl) rfl rfl rfl hd kk
theorem gf_X8_86 (C : Gd X G cc RX8 nL d ret mc ms) {j : Nat} (hj : j < 7) {l : Nat} (hl : l < 60) (hd : decode cc pc = .ok (.getfield 86, 3)) (kk : V X G mc ms Q σ (pc + 3) lc (.int (σ.1 96 j l) :: st)) : V X G mc ms Q σ pc lc (.ref (ad G 6 j l) :: st) := v_geti C 6 j l 0 96 (ok6 hj hl) rfl inA6 (by decide) (wA 162 (by decide +kernel) rfl) rfl rfl rfl hd kk
theorem gf_X8_93 (C : Gd X G cc RX8 nL d ret mc ms) {j : Nat} (hj : j < 7) {l : Nat} (hl : l < 60) (hd : decode cc pc = .ok (.getfield 93, 3)) (kk : V X G mc ms Q σ (pc + 3) lc (.int (σ.1 101 j l) :: st)) : V X G mc ms Q σ pc lc (.ref (ad G 6 j l) :: st) := v_geti C 6 j l 5 101 (ok6 hj hl) rfl inA6 (by decide) (wA 180 (by decide +kernel) rfl) rfl rfl rfl hd kk
theorem pf_X8_93 (C : Gd X G cc RX8 nL d ret mc ms) {j : Nat} (hj : j < 7) {l : Nat} (hl : l < 60) {v : Int32} (hd : decode cc pc = .ok (.putfield 93, 3)) (kk : V X G mc ms Q (up σ 101 j l v) (pc + 3) lc st) : V X G mc ms Q σ pc lc (.int v :: .ref (ad G 6 j l) :: st) := v_puti C 6 j l 5 101 (ty := .int) tyX6 (ok6 hj hl) rfl inA6 tyX6_ok nmX6 (by decide) (wA 180 (by decide +kernel) rfl) rfl rfl (by decide +kernel) rfl rfl (by decide) (by decide) rfl (Nat.le_of_ble_eq_true rfl) (by simp [cE, up]) hd kk
theorem gf_X8_94 (C : Gd X G cc RX8 nL d ret mc ms) {j : Nat} (hj : j < 7) {l : Nat} (hl : l < 60) (hd : decode cc pc = .ok (.getfield 94, 3)) (kk : V X G mc ms Q σ (pc + 3) lc (.int (σ.1 99 j l) :: st)) : V X G mc ms Q σ pc lc (.ref (ad G 6 j l) :: st) := v_geti C 6 j l 3 99 (ok6 hj hl) rfl inA6 (by decide) (wA 174 (by decide +kernel) rfl) rfl rfl rfl hd kk
theorem pf_X8_94 (C : Gd X G cc RX8 nL d ret mc ms) {j : Nat} (hj : j < 7) {l : Nat} (hl : l < 60) {v : Int32} (hd : decode cc pc = .ok (.putfield 94, 3)) (kk : V X G mc ms Q (up σ 99 j l v) (pc + 3) lc st) : V X G mc ms Q σ pc lc (.int v :: .ref (ad G 6 j l) :: st) := v_puti C 6 j l 3 99 (ty := .int) tyX6 (ok6 hj hl) rfl inA6 tyX6_ok nmX6 (by decide) (wA 174 (by decide +kernel) rfl) rfl rfl (by decide +kernel) rfl rfl (by decide) (by decide) rfl (Nat.le_of_ble_eq_true rfl) (by simp [cE, up]) hd kk
theorem gf_X8_100 (C : Gd X G cc RX8 nL d ret mc ms) {j : Nat} (hj : j < 7) {l : Nat} (hl : l < 8) (hd : decode cc pc = .ok (.getfield 100, 3)) (kk : V X G mc ms Q σ (pc + 3) lc (.int (σ.1 49 j l) :: st)) : V X G mc ms Q σ pc lc (.ref (ad G 3 j l) :: st) := v_geti C 3 j l 1 49 (ok3 hj hl) rfl inA3 (by decide) (wA 85 (by decide +kernel) rfl) rfl rfl rfl hd kk
theorem pf_X8_100 (C : Gd X G cc RX8 nL d ret mc ms) {j : Nat} (hj : j < 7) {l : Nat} (hl : l < 8) {v : Int32} (hd : decode cc pc = .ok (.putfield 100, 3)) (kk : V X G mc ms Q (up σ 49 j l v) (pc + 3) lc st) : V X G mc ms Q σ pc lc (.int v :: .ref (ad G 3 j l) :: st) := v_puti C 3 j l 1 49 (ty := .int) tyX3 (ok3 hj hl) rfl inA3 tyX3_ok nmX3 (by decide) (wA 85 (by decide +kernel) rfl) rfl rfl (by decide +kernel) rfl rfl (by decide) (by decide) rfl (Nat.le_of_ble_eq_true rfl) (by simp [cE, up]) hd kk
theorem gf_X8_105 (C : Gd X G cc RX8 nL d ret mc ms) {j : Nat} (hj : j < 7) {l : Nat} (hl : l < 60) (hd : decode cc pc = .ok (.getfield 105, 3)) (kk : V X G mc ms Q σ (pc + 3) lc (.int (σ.1 97 j l) :: st)) : V X G mc ms Q σ pc lc (.ref (ad G 6 j l) :: st) := v_geti C 6 j l 1 97 (ok6 hj hl) rfl inA6 (by decide) (wA 166 (by decide +kernel) rfl) rfl rfl rfl hd kk
theorem gf_X8_108 (C : Gd X G cc RX8 nL d ret mc ms) {j : Nat} (hj : j < 7) {l : Nat} (hl : l < 60) (hd : decode cc pc = .ok (.getfield 108, 3)) (kk : V X G mc ms Q σ (pc + 3) lc (.int (σ.1 98 j l) :: st)) : V X G mc ms Q σ pc lc (.ref (ad G 6 j l) :: st) := v_geti C 6 j l 2 98 (ok6 hj hl) rfl inA6 (by decide) (wA 170 (by decide +kernel) rfl) rfl rfl rfl hd kk
theorem pf_X9_22 (C : Gd X G cc RX9 nL d ret mc ms) {v : Int32} (hv : v = 0 ∨ v = 1) (hd : decode cc pc = .ok (.putfield 22, 3)) (kk : V X G mc ms Q (up σ 147 0 0 v) (pc + 3) lc st) : V X G mc ms Q σ pc lc (.int v :: .ref (ad G 9 0 0) :: st) := v_puti C 9 0 0 3 147 (ty := .boolean) tyX9 (ok9) rfl inA9 tyX9_ok nmX9 (by decide) (wA 371 (by decide +kernel) rfl) rfl rfl (by decide +kernel) (nar01 hv) (fit01 hv) (by decide) (by decide) rfl (Nat.le_of_ble_eq_true rfl) (by simp [cE, up]) hd kk
theorem gf_X9_10 (C : Gd X G cc RX9 nL d ret mc ms) (hd : decode cc pc = .ok (.getfield 10, 3)) (kk : V X G mc ms Q σ (pc + 3) lc (.ref (ad G 5 0 0) :: st)) : V X G mc ms Q σ pc lc (.ref (ad G 9 0 0) :: st) := v_getr C 9 0 0 0 (ad G 5 0 0) (ok9) rfl inA9 (by decide) (wA 368 (by decide +kernel) rfl) rfl rfl rfl hd kk
theorem gf_X9_54 (C : Gd X G cc RX9 nL d ret mc ms) {j : Nat} (hj : j < 7) (hd : decode cc pc = .ok (.getfield 54, 3)) (kk : V X G mc ms Q σ (pc + 3) lc (.int (σ.1 84 j 0) :: st)) : V X G mc ms Q σ pc lc (.ref (ad G 5 j 0) :: st) := v_geti C 5 j 0 4 84 (ok5 hj) rfl inA5 (by decide) (wA 212 (by decide +kernel) rfl) rfl rfl rfl hd kk
theorem gf_X9_29 (C : Gd X G cc RX9 nL d ret mc ms) (hd : decode cc pc = .ok (.getfield 29, 3)) (kk : V X G mc ms Q σ (pc + 3) lc (.ref (ad G 2 0 0) :: st)) : V X G mc ms Q σ pc lc (.ref (ad G 9 0 0) :: st) := v_getr C 9 0 0 4 (ad G 2 0 0) (ok9) rfl inA9 (by decide) (wA 372 (by decide +kernel) rfl) rfl rfl rfl hd kk
theorem gf_X9_62 (C : Gd X G cc RX9 nL d ret mc ms) {j : Nat} (hj : j < 7) (hd : decode cc pc = .ok (.getfield 62, 3)) (kk : V X G mc ms Q σ (pc + 3) lc (.ref (ad G 11 j 0) :: st)) : V X G mc ms Q σ pc lc (.ref (ad G 5 j 0) :: st) := v_getr C 5 j 0 0 (ad G 11 j 0) (ok5 hj) rfl inA5 (by decide) (wA 201 (by decide +kernel) rfl) rfl rfl rfl hd kk
theorem pf_X9_54 (C : Gd X G cc RX9 nL d ret mc ms) {j : Nat} (hj : j < 7) {v : Int32} (hd : decode cc pc = .ok (.putfield 54, 3)) (kk : V X G mc ms Q (up σ 84 j 0 v) (pc + 3) lc st) : V X G mc ms Q σ pc lc (.int v :: .ref (ad G 5 j 0) :: st) := v_puti C 5 j 0 4 84 (ty := .int) tyX5 (ok5 hj) rfl inA5 tyX5_ok nmX5 (by decide) (wA 212 (by decide +kernel) rfl) rfl rfl (by decide +kernel) rfl rfl (by decide) (by decide) rfl (Nat.le_of_ble_eq_true rfl) (by simp [cE, up]) hd kk
theorem gf_X9_77 (C : Gd X G cc RX9 nL d ret mc ms) {j : Nat} (hj : j < 7) {l : Nat} (hl : l < 8) (hd : decode cc pc = .ok (.getfield 77, 3)) (kk : V X G mc ms Q σ (pc + 3) lc (.int (σ.1 48 j l) :: st)) : V X G mc ms Q σ pc lc (.ref (ad G 3 j l) :: st) := v_geti C 3 j l 0 48 (ok3 hj hl) rfl inA3 (by decide) (wA 81 (by decide +kernel) rfl) rfl rfl rfl hd kk
theorem pf_X9_77 (C : Gd X G cc RX9 nL d ret mc ms) {j : Nat} (hj : j < 7) {l : Nat} (hl : l < 8) {v : Int32} (hd : decode cc pc = .ok (.putfield 77, 3)) (kk : V X G mc ms Q (up σ 48 j l v) (pc + 3) lc st) : V X G mc ms Q σ pc lc (.int v :: .ref (ad G 3 j l) :: st) := v_puti C 3 j l 0 48 (ty := .int) tyX3 (ok3 hj hl) rfl inA3 tyX3_ok nmX3 (by decide) (wA 81 (by decide +kernel) rfl) rfl rfl (by decide +kernel) rfl rfl (by decide) (by decide) rfl (Nat.le_of_ble_eq_true rfl) (by simp [cE, up]) hd kk
theorem gf_X9_80 (C : Gd X G cc RX9 nL d ret mc ms) {j : Nat} (hj : j < 7) (hd : decode cc pc = .ok (.getfield 80, 3)) (kk : V X G mc ms Q σ (pc + 3) lc (.int (σ.1 89 j 0) :: st)) : V X G mc ms Q σ pc lc (.ref (ad G 5 j 0) :: st) := v_geti C 5 j 0 9 89 (ok5 hj) rfl inA5 (by decide) (wA 226 (by decide +kernel) rfl) rfl rfl rfl hd kk
theorem pf_X9_80 (C : Gd X G cc RX9 nL d ret mc ms) {j : Nat} (hj : j < 7) {v : Int32} (hd : decode cc pc = .ok (.putfield 80, 3)) (kk : V X G mc ms Q (up σ 89 j 0 v) (pc + 3) lc st) : V X G mc ms Q σ pc lc (.int v :: .ref (ad G 5 j 0) :: st) := v_puti C 5 j 0 9 89 (ty := .int) tyX5 (ok5 hj) rfl inA5 tyX5_ok nmX5 (by decide) (wA 226 (by decide +kernel) rfl) rfl rfl (by decide +kernel) rfl rfl (by decide) (by decide) rfl (Nat.le_of_ble_eq_true rfl) (by simp [cE, up]) hd kk
theorem gf_X9_87 (C : Gd X G cc RX9 nL d ret mc ms) {j : Nat} (hj : j < 7) (hd : decode cc pc = .ok (.getfield 87, 3)) (kk : V X G mc ms Q σ (pc + 3) lc (.int (σ.1 85 j 0) :: st)) : V X G mc ms Q σ pc lc (.ref (ad G 5 j 0) :: st) := v_geti C 5 j 0 5 85 (ok5 hj) rfl inA5 (by decide) (wA 215 (by decide +kernel) rfl) rfl rfl rfl hd kk
theorem gf_X9_90 (C : Gd X G cc RX9 nL d ret mc ms) {j : Nat} (hj : j < 7) (hd : decode cc pc = .ok (.getfield 90, 3)) (kk : V X G mc ms Q σ (pc + 3) lc (.ref (ad G 12 j 0) :: st)) : V X G mc ms Q σ pc lc (.ref (ad G 5 j 0) :: st) := v_getr C 5 j 0 1 (ad G 12 j 0) (ok5 hj) rfl inA5 (by decide) (wA 205 (by decide +kernel) rfl) rfl rfl rfl hd kk
theorem pf_X9_87 (C : Gd X G cc RX9 nL d ret mc ms) {j : Nat} (hj : j < 7) {v : Int32} (hd : decode cc pc = .ok (.putfield 87, 3)) (kk : V X G mc ms Q (up σ 85 j 0 v) (pc + 3) lc st) : V X G mc ms Q σ pc lc (.int v :: .ref (ad G 5 j 0) :: st) := v_puti C 5 j 0 5 85 (ty := .int) tyX5 (ok5 hj) rfl inA5 tyX5_ok nmX5 (by decide) (wA 215 (by decide +kernel) rfl) rfl rfl (by decide +kernel) rfl rfl (by decide) (by decide) rfl (Nat.le_of_ble_eq_true rfl) (by simp [cE, up]) hd kk
theorem gf_X9_114 (C : Gd X G cc RX9 nL d ret mc ms) {j : Nat} (hj : j < 7) {l : Nat} (hl : l < 10) (hd : decode cc pc = .ok (.getfield 114, 3)) (kk : V X G mc ms Q σ (pc + 3) lc (.int (σ.1 64 j l) :: st)) : V X G mc ms Q σ pc lc (.ref (ad G 4 j l) :: st) := v_geti C 4 j l 0 64 (ok4 hj hl) rfl inA4 (by decide) (wA 105 (by decide +kernel) rfl) rfl rfl rfl hd kk
theorem gf_X9_50 (C : Gd X G cc RX9 nL d ret mc ms) (hd : decode cc pc = .ok (.getfield 50, 3)) (kk : V X G mc ms Q σ (pc + 3) lc (.ref (ad G 8 0 0) :: st)) : V X G mc ms Q σ pc lc (.ref (ad G 9 0 0) :: st) := v_getr C 9 0 0 7 (ad G 8 0 0) (ok9) rfl inA9 (by decide) (wA 375 (by decide +kernel) rfl) rfl rfl rfl hd kk
theorem gf_X9_43 (C : Gd X G cc RX9 nL d ret mc ms) (hd : decode cc pc = .ok (.getfield 43, 3)) (kk : V X G mc ms Q σ (pc + 3) lc (.ref (ad G 7 0 0) :: st)) : V X G mc ms Q σ pc lc (.ref (ad G 9 0 0) :: st) := v_getr C 9 0 0 6 (ad G 7 0 0) (ok9) rfl inA9 (by decide) (wA 374 (by decide +kernel) rfl) rfl rfl rfl hd kk
theorem gf_X9_150 (C : Gd X G cc RX9 nL d ret mc ms) {j : Nat} (hj : j < 7) {l : Nat} (hl : l < 10) (hd : decode cc pc = .ok (.getfield 150, 3)) (kk : V X G mc ms Q σ (pc + 3) lc (.int (σ.1 68 j l) :: st)) : V X G mc ms Q σ pc lc (.ref (ad G 4 j l) :: st) := v_geti C 4 j l 4 68 (ok4 hj hl) rfl inA4 (by decide) (wA 113 (by decide +kernel) rfl) rfl rfl rfl hd kk
theorem gf_X9_153 (C : Gd X G cc RX9 nL d ret mc ms) {j : Nat} (hj : j < 7) {l : Nat} (hl : l < 10) (hd : decode cc pc = .ok (.getfield 153, 3)) (kk : V X G mc ms Q σ (pc + 3) lc (.int (σ.1 72 j l) :: st)) : V X G mc ms Q σ pc lc (.ref (ad G 4 j l) :: st) := v_geti C 4 j l 8 72 (ok4 hj hl) rfl inA4 (by decide) (wA 124 (by decide +kernel) rfl) rfl rfl rfl hd kk
theorem gf_X9_156 (C : Gd X G cc RX9 nL d ret mc ms) {j : Nat} (hj : j < 7) {l : Nat} (hl : l < 10) (hd : decode cc pc = .ok (.getfield 156, 3)) (kk : V X G mc ms Q σ (pc + 3) lc (.int (σ.1 70 j l) :: st)) : V X G mc ms Q σ pc lc (.ref (ad G 4 j l) :: st) := v_geti C 4 j l 6 70 (ok4 hj hl) rfl inA4 (by decide) (wA 119 (by decide +kernel) rfl) rfl rfl rfl hd kk
theorem pf_X9_159 (C : Gd X G cc RX9 nL d ret mc ms) {j : Nat} (hj : j < 7) {l : Nat} (hl : l < 10) {v : Int32} (hd : decode cc pc = .ok (.putfield 159, 3)) (kk : V X G mc ms Q (up σ 71 j l v) (pc + 3) lc st) : V X G mc ms Q σ pc lc (.int v :: .ref (ad G 4 j l) :: st) := v_puti C 4 j l 7 71 (ty := .int) tyX4 (ok4 hj hl) rfl inA4 tyX4_ok nmX4 (by decide) (wA 122 (by decide +kernel) rfl) rfl rfl (by decide +kernel) rfl rfl (by decide) (by decide) rfl (Nat.le_of_ble_eq_true rfl) (by simp [cE, up]) hd kk
theorem pf_X9_153 (C : Gd X G cc RX9 nL d ret mc ms) {j : Nat} (hj : j < 7) {l : Nat} (hl : l < 10) {v : Int32} (hd : decode cc pc = .ok (.putfield 153, 3)) (kk : V X G mc ms Q (up σ 72 j l v) (pc + 3) lc st) : V X G mc ms Q σ pc lc (.int v :: .ref (ad G 4 j l) :: st) := v_puti C 4 j l 8 72 (ty := .int) tyX4 (ok4 hj hl) rfl inA4 tyX4_ok nmX4 (by decide) (wA 124 (by decide +kernel) rfl) rfl rfl (by decide +kernel) rfl rfl (by decide) (by decide) rfl (Nat.le_of_ble_eq_true rfl) (by simp [cE, up]) hd kk
theorem pf_X9_165 (C : Gd X G cc RX9 nL d ret mc ms) {j : Nat} (hj : j < 7) {l : Nat} (hl : l < 10) {v : Int32} (hd : decode cc pc = .ok (.putfield 165, 3)) (kk : V X G mc ms Q (up σ 69 j l v) (pc + 3) lc st) : V X G mc ms Q σ pc lc (.int v :: .ref (ad G 4 j l) :: st) := v_puti C 4 j l 5 69 (ty := .int) tyX4 (ok4 hj hl) rfl inA4 tyX4_ok nmX4 (by decide) (wA 116 (by decide +kernel) rfl) rfl rfl (by decide +kernel) rfl rfl (by decide) (by decide) rfl (Nat.le_of_ble_eq_true rfl) (by simp [cE, up]) hd kk
theorem gf_X9_165 (C : Gd X G cc RX9 nL d ret mc ms) {j : Nat} (hj : j < 7) {l : Nat} (hl : l < 10) (hd : decode cc pc = .ok (.getfield 165, 3)) (kk : V X G mc ms Q σ (pc + 3) lc (.int (σ.1 69 j l) :: st)) : V X G mc ms Q σ pc lc (.ref (ad G 4 j l) :: st) := v_geti C 4 j l 5 69 (ok4 hj hl) rfl inA4 (by decide) (wA 116 (by decide +kernel) rfl) rfl rfl rfl hd kk
theorem pf_X9_178 (C : Gd X G cc RX9 nL d ret mc ms) {j : Nat} (hj : j < 7) {v : Int32} (hd : decode cc pc = .ok (.putfield 178, 3)) (kk : V X G mc ms Q (up σ 88 j 0 v) (pc + 3) lc st) : V X G mc ms Q σ pc lc (.int v :: .ref (ad G 5 j 0) :: st) := v_puti C 5 j 0 8 88 (ty := .int) tyX5 (ok5 hj) rfl inA5 tyX5_ok nmX5 (by decide) (wA 223 (by decide +kernel) rfl) rfl rfl (by decide +kernel) rfl rfl (by decide) (by decide) rfl (Nat.le_of_ble_eq_true rfl) (by simp [cE, up]) hd kk
theorem gf_X9_187 (C : Gd X G cc RX9 nL d ret mc ms) {j : Nat} (hj : j < 7) {l : Nat} (hl : l < 10) (hd : decode cc pc = .ok (.getfield 187, 3)) (kk : V X G mc ms Q σ (pc + 3) lc (.int (σ.1 74 j l) :: st)) : V X G mc ms Q σ pc lc (.ref (ad G 4 j l) :: st) := v_geti C 4 j l 10 74 (ok4 hj hl) rfl inA4 (by decide) (wA 131 (by decide +kernel) rfl) rfl rfl rfl hd kk
theorem gf_X9_190 (C : Gd X G cc RX9 nL d ret mc ms) {j : Nat} (hj : j < 7) {l : Nat} (hl : l < 10) (hd : decode cc pc = .ok (.getfield 190, 3)) (kk : V X G mc ms Q σ (pc + 3) lc (.int (σ.1 73 j l) :: st)) : V X G mc ms Q σ pc lc (.ref (ad G 4 j l) :: st) := v_geti C 4 j l 9 73 (ok4 hj hl) rfl inA4 (by decide) (wA 129 (by decide +kernel) rfl) rfl rfl rfl hd kk
theorem pf_X9_187 (C : Gd X G cc RX9 nL d ret mc ms) {j : Nat} (hj : j < 7) {l : Nat} (hl : l < 10) {v : Int32} (hd : decode cc pc = .ok (.putfield 187, 3)) (kk : V X G mc ms Q (up σ 74 j l v) (pc + 3) lc st) : V X G mc ms Q σ pc lc (.int v :: .ref (ad G 4 j l) :: st) := v_puti C 4 j l 10 74 (ty := .int) tyX4 (ok4 hj hl) rfl inA4 tyX4_ok nmX4 (by decide) (wA 131 (by decide +kernel) rfl) rfl rfl (by decide +kernel) rfl rfl (by decide) (by decide) rfl (Nat.le_of_ble_eq_true rfl) (by simp [cE, up]) hd kk
theorem gf_X9_196 (C : Gd X G cc RX9 nL d ret mc ms) {j : Nat} (hj : j < 7) (hd : decode cc pc = .ok (.getfield 196, 3)) (kk : V X G mc ms Q σ (pc + 3) lc (.ref (ad G 13 j 0) :: st)) : V X G mc ms Q σ pc lc (.ref (ad G 5 j 0) :: st) := v_getr C 5 j 0 2 (ad G 13 j 0) (ok5 hj) rfl inA5 (by decide) (wA 208 (by decide +kernel) rfl) rfl rfl rfl hd kk
theorem gf_X9_200 (C : Gd X G cc RX9 nL d ret mc ms) {j : Nat} (hj : j < 7) {l : Nat} (hl : l < 60) (hd : decode cc pc = .ok (.getfield 200, 3)) (kk : V X G mc ms Q σ (pc + 3) lc (.int (σ.1 96 j l) :: st)) : V X G mc ms Q σ pc lc (.ref (ad G 6 j l) :: st) := v_geti C 6 j l 0 96 (ok6 hj hl) rfl inA6 (by decide) (wA 163 (by decide +kernel) rfl) rfl rfl rfl hd kk
theorem gf_X9_205 (C : Gd X G cc RX9 nL d ret mc ms) {j : Nat} (hj : j < 7) {l : Nat} (hl : l < 60) (hd : decode cc pc = .ok (.getfield 205, 3)) (kk : V X G mc ms Q σ (pc + 3) lc (.int (σ.1 97 j l) :: st)) : V X G mc ms Q σ pc lc (.ref (ad G 6 j l) :: st) := v_geti C 6 j l 1 97 (ok6 hj hl) rfl inA6 (by decide) (wA 168 (by decide +kernel) rfl) rfl rfl rfl hd kk
theorem pf_X9_200 (C : Gd X G cc RX9 nL d ret mc ms) {j : Nat} (hj : j < 7) {l : Nat} (hl : l < 60) {v : Int32} (hd : decode cc pc = .ok (.putfield 200, 3)) (kk : V X G mc ms Q (up σ 96 j l v) (pc + 3) lc st) : V X G mc ms Q σ pc lc (.int v :: .ref (ad G 6 j l) :: st) := v_puti C 6 j l 0 96 (ty := .int) tyX6 (ok6 hj hl) rfl inA6 tyX6_ok nmX6 (by decide) (wA 163 (by decide +kernel) rfl) rfl rfl (by decide +kernel) rfl rfl (by decide) (by decide) rfl (Nat.le_of_ble_eq_true rfl) (by simp [cE, up]) hd kk
theorem gf_X9_215 (C : Gd X G cc RX9 nL d ret mc ms) {j : Nat} (hj : j < 7) {l : Nat} (hl : l < 60) (hd : decode cc pc = .ok (.getfield 215, 3)) (kk : V X G mc ms Q σ (pc + 3) lc (.int (σ.1 99 j l) :: st)) : V X G mc ms Q σ pc lc (.ref (ad G 6 j l) :: st) := v_geti C 6 j l 3 99 (ok6 hj hl) rfl inA6 (by decide) (wA 176 (by decide +kernel) rfl) rfl rfl rfl hd kk
theorem gf_X9_216 (C : Gd X G cc RX9 nL d ret mc ms) {j : Nat} (hj : j < 7) (hd : decode cc pc = .ok (.getfield 216, 3)) (kk : V X G mc ms Q σ (pc + 3) lc (.int (σ.1 87 j 0) :: st)) : V X G mc ms Q σ pc lc (.ref (ad G 5 j 0) :: st) := v_geti C 5 j 0 7 87 (ok5 hj) rfl inA5 (by decide) (wA 220 (by decide +kernel) rfl) rfl rfl rfl hd kk
theorem gf_X9_36 (C : Gd X G cc RX9 nL d ret mc ms) (hd : decode cc pc = .ok (.getfield 36, 3)) (kk : V X G mc ms Q σ (pc + 3) lc (.ref (ad G 1 0 0) :: st)) : V X G mc ms Q σ pc lc (.ref (ad G 9 0 0) :: st) := v_getr C 9 0 0 5 (ad G 1 0 0) (ok9) rfl inA9 (by decide) (wA 373 (by decide +kernel) rfl) rfl rfl rfl hd kk
theorem gf_X9_226 (C : Gd X G cc RX9 nL d ret mc ms) (hd : decode cc pc = .ok (.getfield 226, 3)) (kk : V X G mc ms Q σ (pc + 3) lc (.int (σ.1 17 0 0) :: st)) : V X G mc ms Q σ pc lc (.ref (ad G 1 0 0) :: st) := v_geti C 1 0 0 1 17 (ok1) rfl inA1 (by decide) (wA 299 (by decide +kernel) rfl) rfl rfl rfl hd kk
theorem gf_X9_229 (C : Gd X G cc RX9 nL d ret mc ms) (hd : decode cc pc = .ok (.getfield 229, 3)) (kk : V X G mc ms Q σ (pc + 3) lc (.ref (ad G 16 0 0) :: st)) : V X G mc ms Q σ pc lc (.ref (ad G 1 0 0) :: st) := v_getr C 1 0 0 0 (ad G 16 0 0) (ok1) rfl inA1 (by decide) (wA 297 (by decide +kernel) rfl) rfl rfl rfl hd kk
theorem pf_X9_226 (C : Gd X G cc RX9 nL d ret mc ms) {v : Int32} (hd : decode cc pc = .ok (.putfield 226, 3)) (kk : V X G mc ms Q (up σ 17 0 0 v) (pc + 3) lc st) : V X G mc ms Q σ pc lc (.int v :: .ref (ad G 1 0 0) :: st) := v_puti C 1 0 0 1 17 (ty := .int) tyX1 (ok1) rfl inA1 tyX1_ok nmX1 (by decide) (wA 299 (by decide +kernel) rfl) rfl rfl (by decide +kernel) rfl rfl (by decide) (by decide) rfl (Nat.le_of_ble_eq_true rfl) (by simp [cE, up]) hd kk
theorem gf_X9_16 (C : Gd X G cc RX9 nL d ret mc ms) (hd : decode cc pc = .ok (.getfield 16, 3)) (kk : V X G mc ms Q σ (pc + 3) lc (.ref (ad G 5 1 0) :: st)) : V X G mc ms Q σ pc lc (.ref (ad G 9 0 0) :: st) := v_getr C 9 0 0 1 (ad G 5 1 0) (ok9) rfl inA9 (by decide) (wA 369 (by decide +kernel) rfl) rfl rfl rfl hd kk
theorem gf_X9_239 (C : Gd X G cc RX9 nL d ret mc ms) (hd : decode cc pc = .ok (.getfield 239, 3)) (kk : V X G mc ms Q σ (pc + 3) lc (.int (σ.1 19 0 0) :: st)) : V X G mc ms Q σ pc lc (.ref (ad G 1 0 0) :: st) := v_geti C 1 0 0 3 19 (ok1) rfl inA1 (by decide) (wA 303 (by decide +kernel) rfl) rfl rfl rfl hd kk
theorem gf_X9_242 (C : Gd X G cc RX9 nL d ret mc ms) (hd : decode cc pc = .ok (.getfield 242, 3)) (kk : V X G mc ms Q σ (pc + 3) lc (.ref (ad G 17 0 0) :: st)) : V X G mc ms Q σ pc lc (.ref (ad G 1 0 0) :: st) := v_getr C 1 0 0 2 (ad G 17 0 0) (ok1) rfl inA1 (by decide) (wA 301 (by decide +kernel) rfl) rfl rfl rfl hd kk
theorem gf_X9_246 (C : Gd X G cc RX9 nL d ret mc ms) {l : Nat} (hl : l < 10) (hd : decode cc pc = .ok (.getfield 246, 3)) (kk : V X G mc ms Q σ (pc + 3) lc (.int (σ.1 0 0 l) :: st)) : V X G mc ms Q σ pc lc (.ref (ad G 0 0 l) :: st) := v_geti C 0 0 l 0 0 (ok0 hl) rfl inA0 (by decide) (wA 279 (by decide +kernel) rfl) rfl rfl rfl hd kk
theorem gf_X9_249 (C : Gd X G cc RX9 nL d ret mc ms) {l : Nat} (hl : l < 10) (hd : decode cc pc = .ok (.getfield 249, 3)) (kk : V X G mc ms Q σ (pc + 3) lc (.int (σ.1 1 0 l) :: st)) : V X G mc ms Q σ pc lc (.ref (ad G 0 0 l) :: st) := v_geti C 0 0 l 1 1 (ok0 hl) rfl inA0 (by decide) (wA 281 (by decide +kernel) rfl) rfl rfl rfl hd kk
theorem gf_X9_250 (C : Gd X G cc RX9 nL d ret mc ms) {l : Nat} (hl : l < 10) (hd : decode cc pc = .ok (.getfield 250, 3)) (kk : V X G mc ms Q σ (pc + 3) lc (.int (σ.1 3 0 l) :: st)) : V X G mc ms Q σ pc lc (.ref (ad G 0 0 l) :: st) := v_geti C 0 0 l 3 3 (ok0 hl) rfl inA0 (by decide) (wA 285 (by decide +kernel) rfl) rfl rfl rfl hd kk
theorem gf_X9_253 (C : Gd X G cc RX9 nL d ret mc ms) {l : Nat} (hl : l < 10) (hd : decode cc pc = .ok (.getfield 253, 3)) (kk : V X G mc ms Q σ (pc + 3) lc (.int (σ.1 2 0 l) :: st)) : V X G mc ms Q σ pc lc (.ref (ad G 0 0 l) :: st) := v_geti C 0 0 l 2 2 (ok0 hl) rfl inA0 (by decide) (wA 283 (by decide +kernel) rfl) rfl rfl rfl hd kk
theorem gf_X9_256 (C : Gd X G cc RX9 nL d ret mc ms) (hd : decode cc pc = .ok (.getfield 256, 3)) (kk : V X G mc ms Q σ (pc + 3) lc (.int (σ.1 33 0 0) :: st)) : V X G mc ms Q σ pc lc (.ref (ad G 2 0 0) :: st) := v_geti C 2 0 0 1 33 (ok2) rfl inA2 (by decide) (wA 259 (by decide +kernel) rfl) rfl rfl rfl hd kk
theorem gf_X9_19 (C : Gd X G cc RX9 nL d ret mc ms) (hd : decode cc pc = .ok (.getfield 19, 3)) (kk : V X G mc ms Q σ (pc + 3) lc (.ref (ad G 5 2 0) :: st)) : V X G mc ms Q σ pc lc (.ref (ad G 9 0 0) :: st) := v_getr C 9 0 0 2 (ad G 5 2 0) (ok9) rfl inA9 (by decide) (wA 370 (by decide +kernel) rfl) rfl rfl rfl hd kk
theorem gf_X9_262 (C : Gd X G cc RX9 nL d ret mc ms) {j : Nat} (hj : j < 7) (hd : decode cc pc = .ok (.getfield 262, 3)) (kk : V X G mc ms Q σ (pc + 3) lc (.int (σ.1 86 j 0) :: st)) : V X G mc ms Q σ pc lc (.ref (ad G 5 j 0) :: st) := v_geti C 5 j 0 6 86 (ok5 hj) rfl inA5 (by decide) (wA 218 (by decide +kernel) rfl) rfl rfl rfl hd kk
theorem gf_X9_22 (C : Gd X G cc RX9 nL d ret mc ms) (hd : decode cc pc = .ok (.getfield 22, 3)) (kk : V X G mc ms Q σ (pc + 3) lc (.int (σ.1 147 0 0) :: st)) : V X G mc ms Q σ pc lc (.ref (ad G 9 0 0) :: st) := v_geti C 9 0 0 3 147 (ok9) rfl inA9 (by decide) (wA 371 (by decide +kernel) rfl) rfl rfl rfl hd kk
theorem gf_X9_274 (C : Gd X G cc RX9 nL d ret mc ms) {j : Nat} (hj : j < 7) {l : Nat} (hl : l < 8) (hd : decode cc pc = .ok (.getfield 274, 3)) (kk : V X G mc ms Q σ (pc + 3) lc (.int (σ.1 49 j l) :: st)) : V X G mc ms Q σ pc lc (.ref (ad G 3 j l) :: st) := v_geti C 3 j l 1 49 (ok3 hj hl) rfl inA3 (by decide) (wA 86 (by decide +kernel) rfl) rfl rfl rfl hd kk
theorem gf_X9_277 (C : Gd X G cc RX9 nL d ret mc ms) {j : Nat} (hj : j < 7) {l : Nat} (hl : l < 8) (hd : decode cc pc = .ok (.getfield 277, 3)) (kk : V X G mc ms Q σ (pc + 3) lc (.int (σ.1 50 j l) :: st)) : V X G mc ms Q σ pc lc (.ref (ad G 3 j l) :: st) := v_geti C 3 j l 2 50 (ok3 hj hl) rfl inA3 (by decide) (wA 89 (by decide +kernel) rfl) rfl rfl rfl hd kk
theorem gf_X9_280 (C : Gd X G cc RX9 nL d ret mc ms) {j : Nat} (hj : j < 7) {l : Nat} (hl : l < 10) (hd : decode cc pc = .ok (.getfield 280, 3)) (kk : V X G mc ms Q σ (pc + 3) lc (.int (σ.1 65 j l) :: st)) : V X G mc ms Q σ pc lc (.ref (ad G 4 j l) :: st) := v_geti C 4 j l 1 65 (ok4 hj hl) rfl inA4 (by decide) (wA 108 (by decide +kernel) rfl) rfl rfl rfl hd kk
theorem gf_X9_159 (C : Gd X G cc RX9 nL d ret mc ms) {j : Nat} (hj : j < 7) {l : Nat} (hl : l < 10) (hd : decode cc pc = .ok (.getfield 159, 3)) (kk : V X G mc ms Q σ (pc + 3) lc (.int (σ.1 71 j l) :: st)) : V X G mc ms Q σ pc lc (.ref (ad G 4 j l) :: st) := v_geti C 4 j l 7 71 (ok4 hj hl) rfl inA4 (by decide) (wA 122 (by decide +kernel) rfl) rfl rfl rfl hd kk
theorem gf_X9_286 (C : Gd X G cc RX9 nL d ret mc ms) {j : Nat} (hj : j < 7) {l : Nat} (hl : l < 60) (hd : decode cc pc = .ok (.getfield 286, 3)) (kk : V X G mc ms Q σ (pc + 3) lc (.int (σ.1 98 j l) :: st)) : V X G mc ms Q σ pc lc (.ref (ad G 6 j l) :: st) := v_geti C 6 j l 2 98 (ok6 hj hl) rfl inA6 (by decide) (wA 172 (by decide +kernel) rfl) rfl rfl rfl hd kk
theorem gf_X9_287 (C : Gd X G cc RX9 nL d ret mc ms) {j : Nat} (hj : j < 7) {l : Nat} (hl : l < 60) (hd : decode cc pc = .ok (.getfield 287, 3)) (kk : V X G mc ms Q σ (pc + 3) lc (.int (σ.1 100 j l) :: st)) : V X G mc ms Q σ pc lc (.ref (ad G 6 j l) :: st) := v_geti C 6 j l 4 100 (ok6 hj hl) rfl inA6 (by decide) (wA 178 (by decide +kernel) rfl) rfl rfl rfl hd kk
theorem gf_X9_290 (C : Gd X G cc RX9 nL d ret mc ms) {j : Nat} (hj : j < 7) {l : Nat} (hl : l < 60) (hd : decode cc pc = .ok (.getfield 290, 3)) (kk : V X G mc ms Q σ (pc + 3) lc (.int (σ.1 101 j l) :: st)) : V X G mc ms Q σ pc lc (.ref (ad G 6 j l) :: st) := v_geti C 6 j l 5 101 (ok6 hj hl) rfl inA6 (by decide) (wA 181 (by decide +kernel) rfl) rfl rfl rfl hd kk
theorem gf_X9_291 (C : Gd X G cc RX9 nL d ret mc ms) {j : Nat} (hj : j < 7) {l : Nat} (hl : l < 60) (hd : decode cc pc = .ok (.getfield 291, 3)) (kk : V X G mc ms Q σ (pc + 3) lc (.int (σ.1 102 j l) :: st)) : V X G mc ms Q σ pc lc (.ref (ad G 6 j l) :: st) := v_geti C 6 j l 6 102 (ok6 hj hl) rfl inA6 (by decide) (wA 184 (by decide +kernel) rfl) rfl rfl rfl hd kk
theorem gf_X9_294 (C : Gd X G cc RX9 nL d ret mc ms) (hd : decode cc pc = .ok (.getfield 294, 3)) (kk : V X G mc ms Q σ (pc + 3) lc (.int (σ.1 112 0 0) :: st)) : V X G mc ms Q σ pc lc (.ref (ad G 7 0 0) :: st) := v_geti C 7 0 0 0 112 (ok7) rfl inA7 (by decide) (wA 321 (by decide +kernel) rfl) rfl rfl rfl hd kk
theorem gf_X9_297 (C : Gd X G cc RX9 nL d ret mc ms) (hd : decode cc pc = .ok (.getfield 297, 3)) (kk : V X G mc ms Q σ (pc + 3) lc (.int (σ.1 113 0 0) :: st)) : V X G mc ms Q σ pc lc (.ref (ad G 7 0 0) :: st) := v_geti C 7 0 0 1 113 (ok7) rfl inA7 (by decide) (wA 325 (by decide +kernel) rfl) rfl rfl rfl hd kk
theorem gf_X9_298 (C : Gd X G cc RX9 nL d ret mc ms) (hd : decode cc pc = .ok (.getfield 298, 3)) (kk : V X G mc ms Q σ (pc + 3) lc (.int (σ.1 114 0 0) :: st)) : V X G mc ms Q σ pc lc (.ref (ad G 7 0 0) :: st) := v_geti C 7 0 0 2 114 (ok7) rfl inA7 (by decide) (wA 329 (by decide +kernel) rfl) rfl rfl rfl hd kk
theorem gf_X9_301 (C : Gd X G cc RX9 nL d ret mc ms) (hd : decode cc pc = .ok (.getfield 301, 3)) (kk : V X G mc ms Q σ (pc + 3) lc (.int (σ.1 115 0 0) :: st)) : V X G mc ms Q σ pc lc (.ref (ad G 7 0 0) :: st) := v_geti C 7 0 0 3 115 (ok7) rfl inA7 (by decide) (wA 332 (by decide +kernel) rfl) rfl rfl rfl hd kk
theorem gf_X9_302 (C : Gd X G cc RX9 nL d ret mc ms) (hd : decode cc pc = .ok (.getfield 302, 3)) (kk : V X G mc ms Q σ (pc + 3) lc (.int (σ.1 116 0 0) :: st)) : V X G mc ms Q σ pc lc (.ref (ad G 7 0 0) :: st) := v_geti C 7 0 0 4 116 (ok7) rfl inA7 (by decide) (wA 335 (by decide +kernel) rfl) rfl rfl rfl hd kk
theorem gf_X9_305 (C : Gd X G cc RX9 nL d ret mc ms) (hd : decode cc pc = .ok (.getfield 305, 3)) (kk : V X G mc ms Q σ (pc + 3) lc (.int (σ.1 117 0 0) :: st)) : V X G mc ms Q σ pc lc (.ref (ad G 7 0 0) :: st) := v_geti C 7 0 0 5 117 (ok7) rfl inA7 (by decide) (wA 338 (by decide +kernel) rfl) rfl rfl rfl hd kk
theorem gf_X9_317 (C : Gd X G cc RX9 nL d ret mc ms) {j : Nat} (hj : j < 7) (hd : decode cc pc = .ok (.getfield 317, 3)) (kk : V X G mc ms Q σ (pc + 3) lc (.ref (ad G 14 j 0) :: st)) : V X G mc ms Q σ pc lc (.ref (ad G 5 j 0) :: st) := v_getr C 5 j 0 3 (ad G 14 j 0) (ok5 hj) rfl inA5 (by decide) (wA 210 (by decide +kernel) rfl) rfl rfl rfl hd kk
theorem gf_X9_178 (C : Gd X G cc RX9 nL d ret mc ms) {j : Nat} (hj : j < 7) (hd : decode cc pc = .ok (.getfield 178, 3)) (kk : V X G mc ms Q σ (pc + 3) lc (.int (σ.1 88 j 0) :: st)) : V X G mc ms Q σ pc lc (.ref (ad G 5 j 0) :: st) := v_geti C 5 j 0 8 88 (ok5 hj) rfl inA5 (by decide) (wA 223 (by decide +kernel) rfl) rfl rfl rfl hd kk
theorem gf_X10_13 (C : Gd X G cc RX10 nL d ret mc ms) (hd : decode cc pc = .ok (.getfield 13, 3)) (kk : V X G mc ms Q σ (pc + 3) lc (.ref (ad G 19 0 0) :: st)) : V X G mc ms Q σ pc lc (.ref (ad G 10 0 0) :: st) := v_getr C 10 0 0 1 (ad G 19 0 0) (ok10) rfl inA10 (by decide) (wA 753 (by decide +kernel) rfl) rfl rfl rfl hd kk
theorem pf_X10_1 (C : Gd X G cc RX10 nL d ret mc ms) {v : Int32} (hd : decode cc pc = .ok (.putfield 1, 3)) (kk : V X G mc ms Q (up σ 160 0 0 v) (pc + 3) lc st) : V X G mc ms Q σ pc lc (.int v :: .ref (ad G 10 0 0) :: st) := v_puti C 10 0 0 0 160 (ty := .int) tyX10 (ok10) rfl inA10 tyX10_ok nmX10 (by decide) (wA 752 (by decide +kernel) rfl) rfl rfl (by decide +kernel) rfl rfl (by decide) (by decide) rfl (Nat.le_of_ble_eq_true rfl) (by simp [cE, up]) hd kk
theorem pf_X10_46 (C : Gd X G cc RX10 nL d ret mc ms) {v : Int32} (hv : v = 0 ∨ v = 1) (hd : decode cc pc = .ok (.putfield 46, 3)) (kk : V X G mc ms Q (up σ 169 0 0 v) (pc + 3) lc st) : V X G mc ms Q σ pc lc (.int v :: .ref (ad G 10 0 0) :: st) := v_puti C 10 0 0 9 169 (ty := .boolean) tyX10 (ok10) rfl inA10 tyX10_ok nmX10 (by decide) (wA 761 (by decide +kernel) rfl) rfl rfl (by decide +kernel) (nar01 hv) (fit01 hv) (by decide) (by decide) rfl (Nat.le_of_ble_eq_true rfl) (by simp [cE, up]) hd kk
theorem gf_X10_17 (C : Gd X G cc RX10 nL d ret mc ms) (hd : decode cc pc = .ok (.getfield 17, 3)) (kk : V X G mc ms Q σ (pc + 3) lc (.ref (ad G 20 0 0) :: st)) : V X G mc ms Q σ pc lc (.ref (ad G 10 0 0) :: st) := v_getr C 10 0 0 2 (ad G 20 0 0) (ok10) rfl inA10 (by decide) (wA 754 (by decide +kernel) rfl) rfl rfl rfl hd kk
theorem gf_X10_46 (C : Gd X G cc RX10 nL d ret mc ms) (hd : decode cc pc = .ok (.getfield 46, 3)) (kk : V X G mc ms Q σ (pc + 3) lc (.int (σ.1 169 0 0) :: st)) : V X G mc ms Q σ pc lc (.ref (ad G 10 0 0) :: st) := v_geti C 10 0 0 9 169 (ok10) rfl inA10 (by decide) (wA 761 (by decide +kernel) rfl) rfl rfl rfl hd kk
theorem gf_X10_53 (C : Gd X G cc RX10 nL d ret mc ms) (hd : decode cc pc = .ok (.getfield 53, 3)) (kk : V X G mc ms Q σ (pc + 3) lc (.int (σ.1 166 0 0) :: st)) : V X G mc ms Q σ pc lc (.ref (ad G 10 0 0) :: st) := v_geti C 10 0 0 6 166 (ok10) rfl inA10 (by decide) (wA 758 (by decide +kernel) rfl) rfl rfl rfl hd kk
theorem gf_X10_23 (C : Gd X G cc RX10 nL d ret mc ms) (hd : decode cc pc = .ok (.getfield 23, 3)) (kk : V X G mc ms Q σ (pc + 3) lc (.ref (ad G 22 0 0) :: st)) : V X G mc ms Q σ pc lc (.ref (ad G 10 0 0) :: st) := v_getr C 10 0 0 5 (ad G 22 0 0) (ok10) rfl inA10 (by decide) (wA 757 (by decide +kernel) rfl) rfl rfl rfl hd kk
theorem pf_X10_53 (C : Gd X G cc RX10 nL d ret mc ms) {v : Int32} (hd : decode cc pc = .ok (.putfield 53, 3)) (kk : V X G mc ms Q (up σ 166 0 0 v) (pc + 3) lc st) : V X G mc ms Q σ pc lc (.int v :: .ref (ad G 10 0 0) :: st) := v_puti C 10 0 0 6 166 (ty := .int) tyX10 (ok10) rfl inA10 tyX10_ok nmX10 (by decide) (wA 758 (by decide +kernel) rfl) rfl rfl (by decide +kernel) rfl rfl (by decide) (by decide) rfl (Nat.le_of_ble_eq_true rfl) (by simp [cE, up]) hd kk
theorem gf_X10_29 (C : Gd X G cc RX10 nL d ret mc ms) (hd : decode cc pc = .ok (.getfield 29, 3)) (kk : V X G mc ms Q σ (pc + 3) lc (.ref (ad G 24 0 0) :: st)) : V X G mc ms Q σ pc lc (.ref (ad G 10 0 0) :: st) := v_getr C 10 0 0 10 (ad G 24 0 0) (ok10) rfl inA10 (by decide) (wA 762 (by decide +kernel) rfl) rfl rfl rfl hd kk
theorem gf_X10_32 (C : Gd X G cc RX10 nL d ret mc ms) (hd : decode cc pc = .ok (.getfield 32, 3)) (kk : V X G mc ms Q σ (pc + 3) lc (.ref (ad G 25 0 0) :: st)) : V X G mc ms Q σ pc lc (.ref (ad G 10 0 0) :: st) := v_getr C 10 0 0 11 (ad G 25 0 0) (ok10) rfl inA10 (by decide) (wA 763 (by decide +kernel) rfl) rfl rfl rfl hd kk
theorem gf_X10_151 (C : Gd X G cc RX10 nL d ret mc ms) (hd : decode cc pc = .ok (.getfield 151, 3)) (kk : V X G mc ms Q σ (pc + 3) lc (.int (σ.1 168 0 0) :: st)) : V X G mc ms Q σ pc lc (.ref (ad G 10 0 0) :: st) := v_geti C 10 0 0 8 168 (ok10) rfl inA10 (by decide) (wA 760 (by decide +kernel) rfl) rfl rfl rfl hd kk
theorem gf_X10_26 (C : Gd X G cc RX10 nL d ret mc ms) (hd : decode cc pc = .ok (.getfield 26, 3)) (kk : V X G mc ms Q σ (pc + 3) lc (.ref (ad G 23 0 0) :: st)) : V X G mc ms Q σ pc lc (.ref (ad G 10 0 0) :: st) := v_getr C 10 0 0 7 (ad G 23 0 0) (ok10) rfl inA10 (by decide) (wA 759 (by decide +kernel) rfl) rfl rfl rfl hd kk
theorem pf_X10_151 (C : Gd X G cc RX10 nL d ret mc ms) {v : Int32} (hd : decode cc pc = .ok (.putfield 151, 3)) (kk : V X G mc ms Q (up σ 168 0 0 v) (pc + 3) lc st) : V X G mc ms Q σ pc lc (.int v :: .ref (ad G 10 0 0) :: st) := v_puti C 10 0 0 8 168 (ty := .int) tyX10 (ok10) rfl inA10 tyX10_ok nmX10 (by decide) (wA 760 (by decide +kernel) rfl) rfl rfl (by decide +kernel) rfl rfl (by decide) (by decide) rfl (Nat.le_of_ble_eq_true rfl) (by simp [cE, up]) hd kk
theorem gf_X10_154 (C : Gd X G cc RX10 nL d ret mc ms) (hd : decode cc pc = .ok (.getfield 154, 3)) (kk : V X G mc ms Q σ (pc + 3) lc (.int (σ.1 172 0 0) :: st)) : V X G mc ms Q σ pc lc (.ref (ad G 10 0 0) :: st) := v_geti C 10 0 0 12 172 (ok10) rfl inA10 (by decide) (wA 764 (by decide +kernel) rfl) rfl rfl rfl hd kk
theorem gf_X10_157 (C : Gd X G cc RX10 nL d ret mc ms) (hd : decode cc pc = .ok (.getfield 157, 3)) (kk : V X G mc ms Q σ (pc + 3) lc (.int (σ.1 173 0 0) :: st)) : V X G mc ms Q σ pc lc (.ref (ad G 10 0 0) :: st) := v_geti C 10 0 0 13 173 (ok10) rfl inA10 (by decide) (wA 765 (by decide +kernel) rfl) rfl rfl rfl hd kk
theorem pf_X10_157 (C : Gd X G cc RX10 nL d ret mc ms) {v : Int32} (hv : v = 0 ∨ v = 1) (hd : decode cc pc = .ok (.putfield 157, 3)) (kk : V X G mc ms Q (up σ 173 0 0 v) (pc + 3) lc st) : V X G mc ms Q σ pc lc (.int v :: .ref (ad G 10 0 0) :: st) := v_puti C 10 0 0 13 173 (ty := .boolean) tyX10 (ok10) rfl inA10 tyX10_ok nmX10 (by decide) (wA 765 (by decide +kernel) rfl) rfl rfl (by decide +kernel) (nar01 hv) (fit01 hv) (by decide) (by decide) rfl (Nat.le_of_ble_eq_true rfl) (by simp [cE, up]) hd kk
theorem pf_X10_154 (C : Gd X G cc RX10 nL d ret mc ms) {v : Int32} (hd : decode cc pc = .ok (.putfield 154, 3)) (kk : V X G mc ms Q (up σ 172 0 0 v) (pc + 3) lc st) : V X G mc ms Q σ pc lc (.int v :: .ref (ad G 10 0 0) :: st) := v_puti C 10 0 0 12 172 (ty := .int) tyX10 (ok10) rfl inA10 tyX10_ok nmX10 (by decide) (wA 764 (by decide +kernel) rfl) rfl rfl (by decide +kernel) rfl rfl (by decide) (by decide) rfl (Nat.le_of_ble_eq_true rfl) (by simp [cE, up]) hd kk
theorem gf_X10_35 (C : Gd X G cc RX10 nL d ret mc ms) (hd : decode cc pc = .ok (.getfield 35, 3)) (kk : V X G mc ms Q σ (pc + 3) lc (.ref (ad G 26 0 0) :: st)) : V X G mc ms Q σ pc lc (.ref (ad G 10 0 0) :: st) := v_getr C 10 0 0 14 (ad G 26 0 0) (ok10) rfl inA10 (by decide) (wA 766 (by decide +kernel) rfl) rfl rfl rfl hd kk
theorem gf_X10_20 (C : Gd X G cc RX10 nL d ret mc ms) (hd : decode cc pc = .ok (.getfield 20, 3)) (kk : V X G mc ms Q σ (pc + 3) lc (.ref (ad G 21 0 0) :: st)) : V X G mc ms Q σ pc lc (.ref (ad G 10 0 0) :: st) := v_getr C 10 0 0 3 (ad G 21 0 0) (ok10) rfl inA10 (by decide) (wA 755 (by decide +kernel) rfl) rfl rfl rfl hd kk
theorem pf_X10_173 (C : Gd X G cc RX10 nL d ret mc ms) {v : Int32} (hv : v = 0 ∨ v = 1) (hd : decode cc pc = .ok (.putfield 173, 3)) (kk : V X G mc ms Q (up σ 164 0 0 v) (pc + 3) lc st) : V X G mc ms Q σ pc lc (.int v :: .ref (ad G 10 0 0) :: st) := v_puti C 10 0 0 4 164 (ty := .boolean) tyX10 (ok10) rfl inA10 tyX10_ok nmX10 (by decide) (wA 756 (by decide +kernel) rfl) rfl rfl (by decide +kernel) (nar01 hv) (fit01 hv) (by decide) (by decide) rfl (Nat.le_of_ble_eq_true rfl) (by simp [cE, up]) hd kk
theorem gf_X10_173 (C : Gd X G cc RX10 nL d ret mc ms) (hd : decode cc pc = .ok (.getfield 173, 3)) (kk : V X G mc ms Q σ (pc + 3) lc (.int (σ.1 164 0 0) :: st)) : V X G mc ms Q σ pc lc (.ref (ad G 10 0 0) :: st) := v_geti C 10 0 0 4 164 (ok10) rfl inA10 (by decide) (wA 756 (by decide +kernel) rfl) rfl rfl rfl hd kk
theorem ld_14 {own : String} (C : Gd X G cc own nL d ret mc ms) {j : Nat} (hj : j < 7) {R : Type} {A : Option R} {res : R} {i : Int32} (hd : decode cc pc = .ok (.iaload, 1)) (h : (if inb i 4 then A else none) = some res) (kk : A = some res → V X G mc ms Q σ (pc + 1) lc (.int (σ.1 224 j i.toNatClampNeg) :: st)) : V X G mc ms Q σ pc lc (.int i :: .ref (ad G 14 j 0) :: st) := v_iald C 14 j 224 4 (ok14 hj) rfl hd h kk
theorem as_14 {own : String} (C : Gd X G cc own nL d ret mc ms) {j : Nat} (hj : j < 7) {R : Type} {A : Option R} {res : R} {i v : Int32} (hd : decode cc pc = .ok (.iastore, 1)) (h : (if inb i 4 then A else none) = some res) (kk : A = some res → V X G mc ms Q (up σ 224 j i.toNatClampNeg v) (pc + 1) lc st) : V X G mc ms Q σ pc lc (.int v :: .int i :: .ref (ad G 14 j 0) :: st) := v_iast C 14 j 224 4 (ok14 hj) (by decide) rfl (fun _ => rfl) hd h kk
theorem ld_18 {own : String} (C : Gd X G cc own nL d ret mc ms) {j : Nat} (hj : j < 3) {R : Type} {A : Option R} {res : R} {i : Int32} (hd : decode cc pc = .ok (.iaload, 1)) (h : (if inb i 60 then A else none) = some res) (kk : A = some res → V X G mc ms Q σ (pc + 1) lc (.int (σ.1 288 j i.toNatClampNeg) :: st)) : V X G mc ms Q σ pc lc (.int i :: .ref (ad G 18 j 0) :: st) := v_iald C 18 j 288 60 (ok18 hj) rfl hd h kk
theorem as_18 {own : String} (C : Gd X G cc own nL d ret mc ms) {j : Nat} (hj : j < 3) {R : Type} {A : Option R} {res : R} {i v : Int32} (hd : decode cc pc = .ok (.iastore, 1)) (h : (if inb i 60 then A else none) = some res) (kk : A = some res → V X G mc ms Q (up σ 288 j i.toNatClampNeg v) (pc + 1) lc st) : V X G mc ms Q σ pc lc (.int v :: .int i :: .ref (ad G 18 j 0) :: st) := v_iast C 18 j 288 60 (ok18 hj) (by decide) rfl (fun _ => rfl) hd h kk
theorem ld_19 {own : String} (C : Gd X G cc own nL d ret mc ms) {R : Type} {A : Option R} {res : R} {i : Int32} (hd : decode cc pc = .ok (.iaload, 1)) (h : (if inb i 564 then A else none) = some res) (kk : A = some res → V X G mc ms Q σ (pc + 1) lc (.int (σ.1 304 0 i.toNatClampNeg) :: st)) : V X G mc ms Q σ pc lc (.int i :: .ref (ad G 19 0 0) :: st) := v_iald C 19 0 304 564 ok19 rfl hd h kk
theorem as_19 {own : String} (C : Gd X G cc own nL d ret mc ms) {R : Type} {A : Option R} {res : R} {i v : Int32} (hd : decode cc pc = .ok (.iastore, 1)) (h : (if inb i 564 then A else none) = some res) (kk : A = some res → V X G mc ms Q (up σ 304 0 i.toNatClampNeg v) (pc + 1) lc st) : V X G mc ms Q σ pc lc (.int v :: .int i :: .ref (ad G 19 0 0) :: st) := v_iast C 19 0 304 564 ok19 (by decide) rfl (fun _ => rfl) hd h kk
theorem ld_20 {own : String} (C : Gd X G cc own nL d ret mc ms) {R : Type} {A : Option R} {res : R} {i : Int32} (hd : decode cc pc = .ok (.iaload, 1)) (h : (if inb i 564 then A else none) = some res) (kk : A = some res → V X G mc ms Q σ (pc + 1) lc (.int (σ.1 320 0 i.toNatClampNeg) :: st)) : V X G mc ms Q σ pc lc (.int i :: .ref (ad G 20 0 0) :: st) := v_iald C 20 0 320 564 ok20 rfl hd h kk
theorem as_20 {own : String} (C : Gd X G cc own nL d ret mc ms) {R : Type} {A : Option R} {res : R} {i v : Int32} (hd : decode cc pc = .ok (.iastore, 1)) (h : (if inb i 564 then A else none) = some res) (kk : A = some res → V X G mc ms Q (up σ 320 0 i.toNatClampNeg v) (pc + 1) lc st) : V X G mc ms Q σ pc lc (.int v :: .int i :: .ref (ad G 20 0 0) :: st) := v_iast C 20 0 320 564 ok20 (by decide) rfl (fun _ => rfl) hd h kk
theorem ld_21 {own : String} (C : Gd X G cc own nL d ret mc ms) {R : Type} {A : Option R} {res : R} {i : Int32} (hd : decode cc pc = .ok (.iaload, 1)) (h : (if inb i 564 then A else none) = some res) (kk : A = some res → V X G mc ms Q σ (pc + 1) lc (.int (σ.1 336 0 i.toNatClampNeg) :: st)) : V X G mc ms Q σ pc lc (.int i :: .ref (ad G 21 0 0) :: st) := v_iald C 21 0 336 564 ok21 rfl hd h kk
theorem as_21 {own : String} (C : Gd X G cc own nL d ret mc ms) {R : Type} {A : Option R} {res : R} {i v : Int32} (hd : decode cc pc = .ok (.iastore, 1)) (h : (if inb i 564 then A else none) = some res) (kk : A = some res → V X G mc ms Q (up σ 336 0 i.toNatClampNeg v) (pc + 1) lc st) : V X G mc ms Q σ pc lc (.int v :: .int i :: .ref (ad G 21 0 0) :: st) := v_iast C 21 0 336 564 ok21 (by decide) rfl (fun _ => rfl) hd h kk
theorem ld_22 {own : String} (C : Gd X G cc own nL d ret mc ms) {R : Type} {A : Option R} {res : R} {i : Int32} (hd : decode cc pc = .ok (.iaload, 1)) (h : (if inb i 2256 then A else none) = some res) (kk : A = some res → V X G mc ms Q σ (pc + 1) lc (.int (σ.1 352 0 i.toNatClampNeg) :: st)) : V X G mc ms Q σ pc lc (.int i :: .ref (ad G 22 0 0) :: st) := v_iald C 22 0 352 2256 ok22 rfl hd h kk
theorem as_22 {own : String} (C : Gd X G cc own nL d ret mc ms) {R : Type} {A : Option R} {res : R} {i v : Int32} (hd : decode cc pc = .ok (.iastore, 1)) (h : (if inb i 2256 then A else none) = some res) (kk : A = some res → V X G mc ms Q (up σ 352 0 i.toNatClampNeg v) (pc + 1) lc st) : V X G mc ms Q σ pc lc (.int v :: .int i :: .ref (ad G 22 0 0) :: st) := v_iast C 22 0 352 2256 ok22 (by decide) rfl (fun _ => rfl) hd h kk
theorem ld_23 {own : String} (C : Gd X G cc own nL d ret mc ms) {R : Type} {A : Option R} {res : R} {i : Int32} (hd : decode cc pc = .ok (.iaload, 1)) (h : (if inb i 60 then A else none) = some res) (kk : A = some res → V X G mc ms Q σ (pc + 1) lc (.int (σ.1 368 0 i.toNatClampNeg) :: st)) : V X G mc ms Q σ pc lc (.int i :: .ref (ad G 23 0 0) :: st) := v_iald C 23 0 368 60 ok23 rfl hd h kk
theorem as_23 {own : String} (C : Gd X G cc own nL d ret mc ms) {R : Type} {A : Option R} {res : R} {i v : Int32} (hd : decode cc pc = .ok (.iastore, 1)) (h : (if inb i 60 then A else none) = some res) (kk : A = some res → V X G mc ms Q (up σ 368 0 i.toNatClampNeg v) (pc + 1) lc st) : V X G mc ms Q σ pc lc (.int v :: .int i :: .ref (ad G 23 0 0) :: st) := v_iast C 23 0 368 60 ok23 (by decide) rfl (fun _ => rfl) hd h kk
theorem ld_24 {own : String} (C : Gd X G cc own nL d ret mc ms) {R : Type} {A : Option R} {res : R} {i : Int32} (hd : decode cc pc = .ok (.iaload, 1)) (h : (if inb i 60 then A else none) = some res) (kk : A = some res → V X G mc ms Q σ (pc + 1) lc (.int (σ.1 384 0 i.toNatClampNeg) :: st)) : V X G mc ms Q σ pc lc (.int i :: .ref (ad G 24 0 0) :: st) := v_iald C 24 0 384 60 ok24 rfl hd h kk
theorem as_24 {own : String} (C : Gd X G cc own nL d ret mc ms) {R : Type} {A : Option R} {res : R} {i v : Int32} (hd : decode cc pc = .ok (.iastore, 1)) (h : (if inb i 60 then A else none) = some res) (kk : A = some res → V X G mc ms Q (up σ 384 0 i.toNatClampNeg v) (pc + 1) lc st) : V X G mc ms Q σ pc lc (.int v :: .int i :: .ref (ad G 24 0 0) :: st) := v_iast C 24 0 384 60 ok24 (by decide) rfl (fun _ => rfl) hd h kk
theorem ld_25 {own : String} (C : Gd X G cc own nL d ret mc ms) {R : Type} {A : Option R} {res : R} {i : Int32} (hd : decode cc pc = .ok (.iaload, 1)) (h : (if inb i 60 then A else none) = some res) (kk : A = some res → V X G mc ms Q σ (pc + 1) lc (.int (σ.1 400 0 i.toNatClampNeg) :: st)) : V X G mc ms Q σ pc lc (.int i :: .ref (ad G 25 0 0) :: st) := v_iald C 25 0 400 60 ok25 rfl hd h kk
theorem as_25 {own : String} (C : Gd X G cc own nL d ret mc ms) {R : Type} {A : Option R} {res : R} {i v : Int32} (hd : decode cc pc = .ok (.iastore, 1)) (h : (if inb i 60 then A else none) = some res) (kk : A = some res → V X G mc ms Q (up σ 400 0 i.toNatClampNeg v) (pc + 1) lc st) : V X G mc ms Q σ pc lc (.int v :: .int i :: .ref (ad G 25 0 0) :: st) := v_iast C 25 0 400 60 ok25 (by decide) rfl (fun _ => rfl) hd h kk
theorem ld_26 {own : String} (C : Gd X G cc own nL d ret mc ms) {R : Type} {A : Option R} {res : R} {i : Int32} (hd : decode cc pc = .ok (.iaload, 1)) (h : (if inb i 64 then A else none) = some res) (kk : A = some res → V X G mc ms Q σ (pc + 1) lc (.int (σ.1 416 0 i.toNatClampNeg) :: st)) : V X G mc ms Q σ pc lc (.int i :: .ref (ad G 26 0 0) :: st) := v_iald C 26 0 416 64 ok26 rfl hd h kk
theorem as_26 {own : String} (C : Gd X G cc own nL d ret mc ms) {R : Type} {A : Option R} {res : R} {i v : Int32} (hd : decode cc pc = .ok (.iastore, 1)) (h : (if inb i 64 then A else none) = some res) (kk : A = some res → V X G mc ms Q (up σ 416 0 i.toNatClampNeg v) (pc + 1) lc st) : V X G mc ms Q σ pc lc (.int v :: .int i :: .ref (ad G 26 0 0) :: st) := v_iast C 26 0 416 64 ok26 (by decide) rfl (fun _ => rfl) hd h kk
theorem lq_11 {own : String} (C : Gd X G cc own nL d ret mc ms) {j : Nat} (hj : j < 7) {R : Type} {A : Option R} {res : R} {i : Int32} (hd : decode cc pc = .ok (.aaload, 1)) (h : (if inb i 8 then A else none) = some res) (kk : A = some res → i.toNatClampNeg < 8 → V X G mc ms Q σ (pc + 1) lc (.ref (ad G 3 j i.toNatClampNeg) :: st)) : V X G mc ms Q σ pc lc (.int i :: .ref (ad G 11 j 0) :: st) := v_aald C 11 j 8 2 2 (fun i => ad G 3 j i) (ok11 hj) rfl rfl hd h (fun h2 => kk h2 (Nat.not_le.mp fun q => (vp_in_iff.mpr (if_some h).1) (Or.inr q)))
theorem lq_12 {own : String} (C : Gd X G cc own nL d ret mc ms) {j : Nat} (hj : j < 7) {R : Type} {A : Option R} {res : R} {i : Int32} (hd : decode cc pc = .ok (.aaload, 1)) (h : (if inb i 10 then A else none) = some res) (kk : A = some res → i.toNatClampNeg < 10 → V X G mc ms Q σ (pc + 1) lc (.ref (ad G 4 j i.toNatClampNeg) :: st)) : V X G mc ms Q σ pc lc (.int i :: .ref (ad G 12 j 0) :: st) := v_aald C 12 j 10 3 3 (fun i => ad G 4 j i) (ok12 hj) rfl rfl hd h (fun h2 => kk h2 (Nat.not_le.mp fun q => (vp_in_iff.mpr (if_some h).1) (Or.inr q)))
theorem lq_13 {own : String} (C : Gd X G cc own nL d ret mc ms) {j : Nat} (hj : j < 7) {R : Type} {A : Option R} {res : R} {i : Int32} (hd : decode cc pc = .ok (.aaload, 1)) (h : (if inb i 60 then A else none) = some res) (kk : A = some res → i.toNatClampNeg < 60 → V X G mc ms Q σ (pc + 1) lc (.ref (ad G 6 j i.toNatClampNeg) :: st)) : V X G mc ms Q σ pc lc (.int i :: .ref (ad G 13 j 0) :: st) := v_aald C 13 j 60 4 4 (fun i => ad G 6 j i) (ok13 hj) rfl rfl hd h (fun h2 => kk h2 (Nat.not_le.mp fun q => (vp_in_iff.mpr (if_some h).1) (Or.inr q)))
theorem lq_15 {own : String} (C : Gd X G cc own nL d ret mc ms) {R : Type} {A : Option R} {res : R} {i : Int32} (hd : decode cc pc = .ok (.aaload, 1)) (h : (if inb i 4 then A else none) = some res) (kk : A = some res → σ.2 i.toNatClampNeg < 7 → V X G mc ms Q σ (pc + 1) lc (.ref (ad G 5 (σ.2 i.toNatClampNeg) 0) :: st)) : V X G mc ms Q σ pc lc (.int i :: .ref (ad G 15 0 0) :: st) := fun H locs ls hR hS hl => v_aald C 15 0 4 5 5 (fun i => ad G 5 (σ.2 i) 0) ok15 rfl rfl hd h (fun h => kk h (hR.2 _)) H locs ls hR hS hl
theorem lq_17 {own : String} (C : Gd X G cc own nL d ret mc ms) {R : Type} {A : Option R} {res : R} {i : Int32} (hd : decode cc pc = .ok (.aaload, 1)) (h : (if inb i 10 then A else none) = some res) (kk : A = some res → i.toNatClampNeg < 10 → V X G mc ms Q σ (pc + 1) lc (.ref (ad G 0 0 i.toNatClampNeg) :: st)) : V X G mc ms Q σ pc lc (.int i :: .ref (ad G 17 0 0) :: st) := v_aald C 17 0 10 6 6 (fun i => ad G 0 0 i) ok17 rfl rfl hd h (fun h2 => kk h2 (Nat.not_le.mp fun q => (vp_in_iff.mpr (if_some h).1) (Or.inr q)))
theorem al_11 {own : String} (C : Gd X G cc own nL d ret mc ms) {j : Nat} (hj : j < 7) (hd : decode cc pc = .ok (.arraylength, 1)) (kk : V X G mc ms Q σ (pc + 1) lc (.int 8 :: st)) : V X G mc ms Q σ pc lc (.ref (ad G 11 j 0) :: st) := v_alen C 11 j 8 2 2 (ok11 hj) rfl rfl rfl hd kk
theorem al_12 {own : String} (C : Gd X G cc own nL d ret mc ms) {j : Nat} (hj : j < 7) (hd : decode cc pc = .ok (.arraylength, 1)) (kk : V X G mc ms Q σ (pc + 1) lc (.int 10 :: st)) : V X G mc ms Q σ pc lc (.ref (ad G 12 j 0) :: st) := v_alen C 12 j 10 3 3 (ok12 hj) rfl rfl rfl hd kk
theorem al_13 {own : String} (C : Gd X G cc own nL d ret mc ms) {j : Nat} (hj : j < 7) (hd : decode cc pc = .ok (.arraylength, 1)) (kk : V X G mc ms Q σ (pc + 1) lc (.int 60 :: st)) : V X G mc ms Q σ pc lc (.ref (ad G 13 j 0) :: st) := v_alen C 13 j 60 4 4 (ok13 hj) rfl rfl rfl hd kk
theorem al_14 {own : String} (C : Gd X G cc own nL d ret mc ms) {j : Nat} (hj : j < 7) (hd : decode cc pc = .ok (.arraylength, 1)) (kk : V X G mc ms Q σ (pc + 1) lc (.int 4 :: st)) : V X G mc ms Q σ pc lc (.ref (ad G 14 j 0) :: st) := v_alen C 14 j 4 0 0 (ok14 hj) rfl rfl rfl hd kk
theorem al_15 {own : String} (C : Gd X G cc own nL d ret mc ms) (hd : decode cc pc = .ok (.arraylength, 1)) (kk : V X G mc ms Q σ (pc + 1) lc (.int 4 :: st)) : V X G mc ms Q σ pc lc (.ref (ad G 15 0 0) :: st) := v_alen C 15 0 4 5 5 ok15 rfl rfl rfl hd kk
theorem al_16 {own : String} (C : Gd X G cc own nL d ret mc ms) (hd : decode cc pc = .ok (.arraylength, 1)) (kk : V X G mc ms Q σ (pc + 1) lc (.int 60 :: st)) : V X G mc ms Q σ pc lc (.ref (ad G 16 0 0) :: st) := v_alen C 16 0 60 1 1 ok16 rfl rfl rfl hd kk
theorem al_17 {own : String} (C : Gd X G cc own nL d ret mc ms) (hd : decode cc pc = .ok (.arraylength, 1)) (kk : V X G mc ms Q σ (pc + 1) lc (.int 10 :: st)) : V X G mc ms Q σ pc lc (.ref (ad G 17 0 0) :: st) := v_alen C 17 0 10 6 6 ok17 rfl rfl rfl hd kk
theorem al_18 {own : String} (C : Gd X G cc own nL d ret mc ms) {j : Nat} (hj : j < 3) (hd : decode cc pc = .ok (.arraylength, 1)) (kk : V X G mc ms Q σ (pc + 1) lc (.int 60 :: st)) : V X G mc ms Q σ pc lc (.ref (ad G 18 j 0) :: st) := v_alen C 18 j 60 0 0 (ok18 hj) rfl rfl rfl hd kk
theorem al_19 {own : String} (C : Gd X G cc own nL d ret mc ms) (hd : decode cc pc = .ok (.arraylength, 1)) (kk : V X G mc ms Q σ (pc + 1) lc (.int 564 :: st)) : V X G mc ms Q σ pc lc (.ref (ad G 19 0 0) :: st) := v_alen C 19 0 564 0 0 ok19 rfl rfl rfl hd kk
theorem al_20 {own : String} (C : Gd X G cc own nL d ret mc ms) (hd : decode cc pc = .ok (.arraylength, 1)) (kk : V X G mc ms Q σ (pc + 1) lc (.int 564 :: st)) : V X G mc ms Q σ pc lc (.ref (ad G 20 0 0) :: st) := v_alen C 20 0 564 0 0 ok20 rfl rfl rfl hd kk
theorem al_21 {own : String} (C : Gd X G cc own nL d ret mc ms) (hd : decode cc pc = .ok (.arraylength, 1)) (kk : V X G mc ms Q σ (pc + 1) lc (.int 564 :: st)) : V X G mc ms Q σ pc lc (.ref (ad G 21 0 0) :: st) := v_alen C 21 0 564 0 0 ok21 rfl rfl rfl hd kk
theorem al_22 {own : String} (C : Gd X G cc own nL d ret mc ms) (hd : decode cc pc = .ok (.arraylength, 1)) (kk : V X G mc ms Q σ (pc + 1) lc (.int 2256 :: st)) : V X G mc ms Q σ pc lc (.ref (ad G 22 0 0) :: st) := v_alen C 22 0 2256 0 0 ok22 rfl rfl rfl hd kk
theorem al_23 {own : String} (C : Gd X G cc own nL d ret mc ms) (hd : decode cc pc = .ok (.arraylength, 1)) (kk : V X G mc ms Q σ (pc + 1) lc (.int 60 :: st)) : V X G mc ms Q σ pc lc (.ref (ad G 23 0 0) :: st) := v_alen C 23 0 60 0 0 ok23 rfl rfl rfl hd kk
theorem al_24 {own : String} (C : Gd X G cc own nL d ret mc ms) (hd : decode cc pc = .ok (.arraylength, 1)) (kk : V X G mc ms Q σ (pc + 1) lc (.int 60 :: st)) : V X G mc ms Q σ pc lc (.ref (ad G 24 0 0) :: st) := v_alen C 24 0 60 0 0 ok24 rfl rfl rfl hd kk
theorem al_25 {own : String} (C : Gd X G cc own nL d ret mc ms) (hd : decode cc pc = .ok (.arraylength, 1)) (kk : V X G mc ms Q σ (pc + 1) lc (.int 60 :: st)) : V X G mc ms Q σ pc lc (.ref (ad G 25 0 0) :: st) := v_alen C 25 0 60 0 0 ok25 rfl rfl rfl hd kk
theorem al_26 {own : String} (C : Gd X G cc own nL d ret mc ms) (hd : decode cc pc = .ok (.arraylength, 1)) (kk : V X G mc ms Q σ (pc + 1) lc (.int 64 :: st)) : V X G mc ms Q σ pc lc (.ref (ad G 26 0 0) :: st) := v_alen C 26 0 64 0 0 ok26 rfl rfl rfl hd kk
theorem cVi {own : String} (C : Gd X G cc own nL (d + 1) ret mc ms) (κ j l : Nat) {R : Type} {y : Ym} {n index : Nat} {av fs st0 : List Value} {T : u_T} {N : Nat} {f : Option (Int32 × Sto)} {k : Int32 → Sto → Option R} {res : R} (hs : SiV y n) (hlk : Cond.methodLink own index y.1 ∈ wsA) (hk : okt κ j l) (hc : clz[κ]? = some (y.1.cls, T, N)) (he : cE G σ κ j l = .inr (κ, fs)) (hn : av.length = n) (hlc : lc.length = nL) (hst : st0 = av.reverse ++ .ref (ad G κ j l) :: st) (hcat : (st.map fun v => v.category).sum ≤ 8) (hd : decode cc pc = .ok (.invokevirtual index, 3)) (h : bd f k = some res) (hcl : ∀ r τ, f = some (r, τ) → Cl G d y (.ref (ad G κ j l) :: av) σ (some (.int r)) τ) (kk : ∀ r τ, k r τ = some res → V X G mc ms Q τ (pc + 3) lc (.int r :: st)) : V X G mc ms Q σ pc lc st0 := vb_i h fun r τ h1 h2 => v_callV C κ j l hs hlk hk hc he hn hlc hst hcat hd (hcl r τ h1) (kk r τ h2)
theorem cSi {own : String} (C : Gd X G cc own nL (d + 1) ret mc ms) {R : Type} {y : Ym} {n index : Nat} {av st0 : List Value} {f : Option (Int32 × Sto)} {k : Int32 → Sto → Option R} {res : R} (hs : SiS y n) (hlk : Cond.methodLink own index y.1 ∈ wsA) (hn : av.length = n) (hlc : lc.length = nL) (hst : st0 = av.reverse ++ st) (hcat : (st.map fun v => v.category).sum ≤ 8) (hd : decode cc pc = .ok (.invokestatic index, 3)) (h : bd f k = some res) (hcl : ∀ r τ, f = some (r, τ) → Cl G d y (av) σ (some (.int r)) τ) (kk : ∀ r τ, k r τ = some res → V X G mc ms Q τ (pc + 3) lc (.int r :: st)) : V X G mc ms Q σ pc lc st0 := vb_i h fun r τ h1 h2 => v_callS C hs hlk hn hlc hst hcat hd (hcl r τ h1) (kk r τ h2)
theorem cSNi {own : String} (C : Gd X G cc own nL (d + 1) ret mc ms) {R : Type} {y : Ym} {n index : Nat} {av st0 : List Value} {f : Option (Int32 × Sto)} {k : Int32 → Sto → Option R} {res : R} (hs : SiS y n) (hlk : (own, index, y.1, "PeerNotes") ∈ nsM) (hn : av.length = n) (hlc : lc.length = nL) (hst : st0 = av.reverse ++ st) (hcat : (st.map fun v => v.category).sum ≤ 8) (hd : decode cc pc = .ok (.invokestatic index, 3)) (h : bd f k = some res) (hcl : ∀ r τ, f = some (r, τ) → Cl G d y (av) σ (some (.int r)) τ) (kk : ∀ r τ, k r τ = some res → V X G mc ms Q τ (pc + 3) lc (.int r :: st)) : V X G mc ms Q σ pc lc st0 := vb_i h fun r τ h1 h2 => v_callSN C hs hlk hn hlc hst hcat hd (hcl r τ h1) (kk r τ h2)
theorem cVv {own : String} (C : Gd X G cc own nL (d + 1) ret mc ms) (κ j l : Nat) {R : Type} {y : Ym} {n index : Nat} {av fs st0 : List Value} {T : u_T} {N : Nat} {f : Option Sto} {k : Sto → Option R} {res : R} (hs : SiV y n) (hlk : Cond.methodLink own index y.1 ∈ wsA) (hk : okt κ j l) (hc : clz[κ]? = some (y.1.cls, T, N)) (he : cE G σ κ j l = .inr (κ, fs)) (hn : av.length = n) (hlc : lc.length = nL) (hst : st0 = av.reverse ++ .ref (ad G κ j l) :: st) (hcat : (st.map fun v => v.category).sum ≤ 8) (hd : decode cc pc = .ok (.invokevirtual index, 3)) (h : bv f k = some res) (hcl : ∀ τ, f = some τ → Cl G d y (.ref (ad G κ j l) :: av) σ none τ) (kk : ∀ τ, k τ = some res → V X G mc ms Q τ (pc + 3) lc st) : V X G mc ms Q σ pc lc st0 := vb_v h fun τ h1 h2 => v_callV C κ j l hs hlk hk hc he hn hlc hst hcat hd (hcl τ h1) (kk τ h2)
theorem cSv {own : String} (C : Gd X G cc own nL (d + 1) ret mc ms) {R : Type} {y : Ym} {n index : Nat} {av st0 : List Value} {f : Option Sto} {k : Sto → Option R} {res : R} (hs : SiS y n) (hlk : Cond.methodLink own index y.1 ∈ wsA) (hn : av.length = n) (hlc : lc.length = nL) (hst : st0 = av.reverse ++ st) (hcat : (st.map fun v => v.category).sum ≤ 8) (hd : decode cc pc = .ok (.invokestatic index, 3)) (h : bv f k = some res) (hcl : ∀ τ, f = some τ → Cl G d y (av) σ none τ) (kk : ∀ τ, k τ = some res → V X G mc ms Q τ (pc + 3) lc st) : V X G mc ms Q σ pc lc st0 := vb_v h fun τ h1 h2 => v_callS C hs hlk hn hlc hst hcat hd (hcl τ h1) (kk τ h2)
theorem cSNv {own : String} (C : Gd X G cc own nL (d + 1) ret mc ms) {R : Type} {y : Ym} {n index : Nat} {av st0 : List Value} {f : Option Sto} {k : Sto → Option R} {res : R} (hs : SiS y n) (hlk : (own, index, y.1, "PeerNotes") ∈ nsM) (hn : av.length = n) (hlc : lc.length = nL) (hst : st0 = av.reverse ++ st) (hcat : (st.map fun v => v.category).sum ≤ 8) (hd : decode cc pc = .ok (.invokestatic index, 3)) (h : bv f k = some res) (hcl : ∀ τ, f = some τ → Cl G d y (av) σ none τ) (kk : ∀ τ, k τ = some res → V X G mc ms Q τ (pc + 3) lc st) : V X G mc ms Q σ pc lc st0 := vb_v h fun τ h1 h2 => v_callSN C hs hlk hn hlc hst hcat hd (hcl τ h1) (kk τ h2)
def FU : Nat := 100000
def wh0 {R : Type} (b : (Sto → Option R) → Sto → Option R) : Nat → Sto → Option R
  | 0, _ => none
  | n + 1, σ => b (wh0 b n) σ
def wh1 {A R : Type} (b : (A → Sto → Option R) → A → Sto → Option R) : Nat → A → Sto → Option R
  | 0, _, _ => none
  | n + 1, x, σ => b (wh1 b n) x σ
def wh2 {A B R : Type} (b : (A → B → Sto → Option R) → A → B → Sto → Option R) : Nat → A → B → Sto → Option R
  | 0, _, _, _ => none
  | n + 1, x, y, σ => b (wh2 b n) x y σ
def wh3 {A B C R : Type} (b : (A → B → C → Sto → Option R) → A → B → C → Sto → Option R) : Nat → A → B → C → Sto → Option R
  | 0, _, _, _, _ => none
  | n + 1, x, y, z, σ => b (wh3 b n) x y z σ
theorem v_loop0 {R : Type} {b : (Sto → Option R) → Sto → Option R} {res : R} (P : Sto → Prop) (hb : ∀ rec : Sto → Option R, (∀ σ, rec σ = some res → P σ) → ∀ σ, b rec σ = some res → P σ) : ∀ {n : Nat} {σ : Sto}, wh0 b n σ = some res → P σ
  | 0, _, h => by cases h
  | n + 1, σ, h => hb (wh0 b n) (fun σ h => v_loop0 P hb h) σ h
theorem v_loop1 {A R : Type} {b : (A → Sto → Option R) → A → Sto → Option R} {res : R} (P : A → Sto → Prop) (hb : ∀ rec : A → Sto → Option R, (∀ x σ, rec x σ = some res → P x σ) → ∀ x σ, b rec x σ = some res → P x σ) : ∀ {n : Nat} {x : A} {σ : Sto}, wh1 b n x σ = some res → P x σ
  | 0, _, _, h => by cases h
  | n + 1, x, σ, h => hb (wh1 b n) (fun x σ h => v_loop1 P hb h) x σ h
theorem v_loop2 {A B R : Type} {b : (A → B → Sto → Option R) → A → B → Sto → Option R} {res : R} (P : A → B → Sto → Prop) (hb : ∀ rec : A → B → Sto → Option R, (∀ x y σ, rec x y σ = some res → P x y σ) → ∀ x y σ, b rec x y σ = some res → P x y σ) : ∀ {n : Nat} {x : A} {y : B} {σ : Sto}, wh2 b n x y σ = some res → P x y σ
  | 0, _, _, _, h => by cases h
  | n + 1, x, y, σ, h => hb (wh2 b n) (fun x y σ h => v_loop2 P hb h) x y σ h
theorem v_loop3 {A B C R : Type} {b : (A → B → C → Sto → Option R) → A → B → C → Sto → Option R} {res : R} (P : A → B → C → Sto → Prop) (hb : ∀ rec : A → B → C → Sto → Option R, (∀ x y z σ, rec x y z σ = some res → P x y z σ) → ∀ x y z σ, b rec x y z σ = some res → P x y z σ) : ∀ {n : Nat} {x : A} {y : B} {z : C} {σ : Sto}, wh3 b n x y z σ = some res → P x y z σ
  | 0, _, _, _, _, h => by cases h
  | n + 1, x, y, z, σ, h => hb (wh3 b n) (fun x y z σ h => v_loop3 P hb h) x y z σ h
end SI
abbrev m_X1_read : Ym := (yX1_read, cX1_read, 5, (some .int))
theorem si_X1_read : SiV m_X1_read 0 := ⟨⟨(wA 47 (by decide +kernel) rfl), (wA 652 (by decide +kernel) rfl), ⟨by decide +kernel, by decide +kernel, by decide +kernel⟩, by decide⟩, (wA 650 (by decide +kernel) rfl), (wA 651 (by decide +kernel) rfl)⟩
abbrev m_X1_isAllowed : Ym := (yX1_isAllowed, cX1_isAllowed, 3, (some .boolean))
theorem si_X1_isAllowed : SiS m_X1_isAllowed 2 := ⟨⟨(wA 47 (by decide +kernel) rfl), (wA 655 (by decide +kernel) rfl), ⟨by decide +kernel, by decide +kernel, by decide +kernel⟩, by decide⟩, (wA 654 (by decide +kernel) rfl)⟩
abbrev m_X1_take : Ym := (yX1_take, cX1_take, 3, none)
theorem si_X1_take : SiS m_X1_take 3 := ⟨⟨(wA 47 (by decide +kernel) rfl), (wA 658 (by decide +kernel) rfl), ⟨by decide +kernel, by decide +kernel, by decide +kernel⟩, by decide⟩, (wA 657 (by decide +kernel) rfl)⟩
abbrev m_X2_record : Ym := (yX2_record, cX2_record, 2, none)
theorem si_X2_record : SiV m_X2_record 1 := ⟨⟨(wA 46 (by decide +kernel) rfl), (wA 400 (by decide +kernel) rfl), ⟨by decide +kernel, by decide +kernel, by decide +kernel⟩, by decide⟩, (wA 398 (by decide +kernel) rfl), (wA 399 (by decide +kernel) rfl)⟩
abbrev m_X2_takeLatest : Ym := (yX2_takeLatest, cX2_takeLatest, 2, none)
theorem si_X2_takeLatest : SiV m_X2_takeLatest 1 := ⟨⟨(wA 46 (by decide +kernel) rfl), (wA 667 (by decide +kernel) rfl), ⟨by decide +kernel, by decide +kernel, by decide +kernel⟩, by decide⟩, (wA 665 (by decide +kernel) rfl), (wA 666 (by decide +kernel) rfl)⟩
abbrev m_X2_dropOldest : Ym := (yX2_dropOldest, cX2_dropOldest, 3, none)
theorem si_X2_dropOldest : SiV m_X2_dropOldest 0 := ⟨⟨(wA 46 (by decide +kernel) rfl), (wA 404 (by decide +kernel) rfl), ⟨by decide +kernel, by decide +kernel, by decide +kernel⟩, by decide⟩, (wA 403 (by decide +kernel) rfl), (wA 0 (by decide +kernel) rfl)⟩
abbrev m_X3_open : Ym := (yX3_open, cX3_open, 2, none)
theorem si_X3_open : SiV m_X3_open 1 := ⟨⟨(wA 43 (by decide +kernel) rfl), (wA 424 (by decide +kernel) rfl), ⟨by decide +kernel, by decide +kernel, by decide +kernel⟩, by decide⟩, (wA 422 (by decide +kernel) rfl), (wA 423 (by decide +kernel) rfl)⟩
abbrev m_X3_copyFrom : Ym := (yX3_copyFrom, cX3_copyFrom, 2, none)
theorem si_X3_copyFrom : SiV m_X3_copyFrom 1 := ⟨⟨(wA 43 (by decide +kernel) rfl), (wA 412 (by decide +kernel) rfl), ⟨by decide +kernel, by decide +kernel, by decide +kernel⟩, by decide⟩, (wA 410 (by decide +kernel) rfl), (wA 411 (by decide +kernel) rfl)⟩
abbrev m_X4_open : Ym := (yX4_open, cX4_open, 4, none)
theorem si_X4_open : SiV m_X4_open 3 := ⟨⟨(wA 44 (by decide +kernel) rfl), (wA 449 (by decide +kernel) rfl), ⟨by decide +kernel, by decide +kernel, by decide +kernel⟩, by decide⟩, (wA 447 (by decide +kernel) rfl), (wA 448 (by decide +kernel) rfl)⟩
abbrev m_X4_start : Ym := (yX4_start, cX4_start, 1, none)
theorem si_X4_start : SiV m_X4_start 0 := ⟨⟨(wA 44 (by decide +kernel) rfl), (wA 488 (by decide +kernel) rfl), ⟨by decide +kernel, by decide +kernel, by decide +kernel⟩, by decide⟩, (wA 486 (by decide +kernel) rfl), (wA 487 (by decide +kernel) rfl)⟩
abbrev m_X4_end : Ym := (yX4_end, cX4_end, 2, none)
theorem si_X4_end : SiV m_X4_end 1 := ⟨⟨(wA 44 (by decide +kernel) rfl), (wA 525 (by decide +kernel) rfl), ⟨by decide +kernel, by decide +kernel, by decide +kernel⟩, by decide⟩, (wA 523 (by decide +kernel) rfl), (wA 524 (by decide +kernel) rfl)⟩
abbrev m_X4_passMonth : Ym := (yX4_passMonth, cX4_passMonth, 1, none)
theorem si_X4_passMonth : SiV m_X4_passMonth 0 := ⟨⟨(wA 44 (by decide +kernel) rfl), (wA 631 (by decide +kernel) rfl), ⟨by decide +kernel, by decide +kernel, by decide +kernel⟩, by decide⟩, (wA 629 (by decide +kernel) rfl), (wA 630 (by decide +kernel) rfl)⟩
abbrev m_X4_takePayment : Ym := (yX4_takePayment, cX4_takePayment, 3, none)
theorem si_X4_takePayment : SiV m_X4_takePayment 2 := ⟨⟨(wA 44 (by decide +kernel) rfl), (wA 573 (by decide +kernel) rfl), ⟨by decide +kernel, by decide +kernel, by decide +kernel⟩, by decide⟩, (wA 571 (by decide +kernel) rfl), (wA 572 (by decide +kernel) rfl)⟩
abbrev m_X4_copyFrom : Ym := (yX4_copyFrom, cX4_copyFrom, 2, none)
theorem si_X4_copyFrom : SiV m_X4_copyFrom 1 := ⟨⟨(wA 44 (by decide +kernel) rfl), (wA 416 (by decide +kernel) rfl), ⟨by decide +kernel, by decide +kernel, by decide +kernel⟩, by decide⟩, (wA 414 (by decide +kernel) rfl), (wA 415 (by decide +kernel) rfl)⟩
abbrev m_X5_copyFrom : Ym := (yX5_copyFrom, cX5_copyFrom, 3, none)
theorem si_X5_copyFrom : SiV m_X5_copyFrom 1 := ⟨⟨(wA 42 (by decide +kernel) rfl), (wA 408 (by decide +kernel) rfl), ⟨by decide +kernel, by decide +kernel, by decide +kernel⟩, by decide⟩, (wA 406 (by decide +kernel) rfl), (wA 407 (by decide +kernel) rfl)⟩
abbrev m_X5_hasInvestor : Ym := (yX5_hasInvestor, cX5_hasInvestor, 2, (some .boolean))
theorem si_X5_hasInvestor : SiV m_X5_hasInvestor 1 := ⟨⟨(wA 42 (by decide +kernel) rfl), (wA 432 (by decide +kernel) rfl), ⟨by decide +kernel, by decide +kernel, by decide +kernel⟩, by decide⟩, (wA 430 (by decide +kernel) rfl), (wA 431 (by decide +kernel) rfl)⟩
abbrev m_X5_hasLoan : Ym := (yX5_hasLoan, cX5_hasLoan, 2, (some .boolean))
theorem si_X5_hasLoan : SiV m_X5_hasLoan 1 := ⟨⟨(wA 42 (by decide +kernel) rfl), (wA 462 (by decide +kernel) rfl), ⟨by decide +kernel, by decide +kernel, by decide +kernel⟩, by decide⟩, (wA 460 (by decide +kernel) rfl), (wA 461 (by decide +kernel) rfl)⟩
abbrev m_X5_hasNote : Ym := (yX5_hasNote, cX5_hasNote, 2, (some .boolean))
theorem si_X5_hasNote : SiV m_X5_hasNote 1 := ⟨⟨(wA 42 (by decide +kernel) rfl), (wA 613 (by decide +kernel) rfl), ⟨by decide +kernel, by decide +kernel, by decide +kernel⟩, by decide⟩, (wA 611 (by decide +kernel) rfl), (wA 612 (by decide +kernel) rfl)⟩
abbrev m_X5_runs : Ym := (yX5_runs, cX5_runs, 2, (some .boolean))
theorem si_X5_runs : SiV m_X5_runs 1 := ⟨⟨(wA 42 (by decide +kernel) rfl), (wA 541 (by decide +kernel) rfl), ⟨by decide +kernel, by decide +kernel, by decide +kernel⟩, by decide⟩, (wA 539 (by decide +kernel) rfl), (wA 540 (by decide +kernel) rfl)⟩
abbrev m_X5_cashOf : Ym := (yX5_cashOf, cX5_cashOf, 2, (some .int))
theorem si_X5_cashOf : SiV m_X5_cashOf 1 := ⟨⟨(wA 42 (by decide +kernel) rfl), (wA 617 (by decide +kernel) rfl), ⟨by decide +kernel, by decide +kernel, by decide +kernel⟩, by decide⟩, (wA 615 (by decide +kernel) rfl), (wA 616 (by decide +kernel) rfl)⟩
abbrev m_X5_give : Ym := (yX5_give, cX5_give, 3, none)
theorem si_X5_give : SiV m_X5_give 2 := ⟨⟨(wA 42 (by decide +kernel) rfl), (wA 484 (by decide +kernel) rfl), ⟨by decide +kernel, by decide +kernel, by decide +kernel⟩, by decide⟩, (wA 482 (by decide +kernel) rfl), (wA 483 (by decide +kernel) rfl)⟩
abbrev m_X5_fundingError : Ym := (yX5_fundingError, cX5_fundingError, 4, (some .int))
theorem si_X5_fundingError : SiV m_X5_fundingError 3 := ⟨⟨(wA 42 (by decide +kernel) rfl), (wA 457 (by decide +kernel) rfl), ⟨by decide +kernel, by decide +kernel, by decide +kernel⟩, by decide⟩, (wA 455 (by decide +kernel) rfl), (wA 456 (by decide +kernel) rfl)⟩
abbrev m_X5_addNote : Ym := (yX5_addNote, cX5_addNote, 5, none)
theorem si_X5_addNote : SiV m_X5_addNote 4 := ⟨⟨(wA 42 (by decide +kernel) rfl), (wA 475 (by decide +kernel) rfl), ⟨by decide +kernel, by decide +kernel, by decide +kernel⟩, by decide⟩, (wA 473 (by decide +kernel) rfl), (wA 474 (by decide +kernel) rfl)⟩
abbrev m_X5_takePayment : Ym := (yX5_takePayment, cX5_takePayment, 4, none)
theorem si_X5_takePayment : SiV m_X5_takePayment 2 := ⟨⟨(wA 42 (by decide +kernel) rfl), (wA 568 (by decide +kernel) rfl), ⟨by decide +kernel, by decide +kernel, by decide +kernel⟩, by decide⟩, (wA 566 (by decide +kernel) rfl), (wA 567 (by decide +kernel) rfl)⟩
abbrev m_X5_writeOff : Ym := (yX5_writeOff, cX5_writeOff, 5, (some .int))
theorem si_X5_writeOff : SiV m_X5_writeOff 1 := ⟨⟨(wA 42 (by decide +kernel) rfl), (wA 601 (by decide +kernel) rfl), ⟨by decide +kernel, by decide +kernel, by decide +kernel⟩, by decide⟩, (wA 599 (by decide +kernel) rfl), (wA 600 (by decide +kernel) rfl)⟩
abbrev m_X5_passMonth : Ym := (yX5_passMonth, cX5_passMonth, 2, none)
theorem si_X5_passMonth : SiV m_X5_passMonth 0 := ⟨⟨(wA 42 (by decide +kernel) rfl), (wA 626 (by decide +kernel) rfl), ⟨by decide +kernel, by decide +kernel, by decide +kernel⟩, by decide⟩, (wA 624 (by decide +kernel) rfl), (wA 625 (by decide +kernel) rfl)⟩
abbrev m_X5_missing : Ym := (yX5_missing, cX5_missing, 2, (some .int))
theorem si_X5_missing : SiV m_X5_missing 1 := ⟨⟨(wA 42 (by decide +kernel) rfl), (wA 467 (by decide +kernel) rfl), ⟨by decide +kernel, by decide +kernel, by decide +kernel⟩, by decide⟩, (wA 465 (by decide +kernel) rfl), (wA 466 (by decide +kernel) rfl)⟩
abbrev m_X5_principals : Ym := (yX5_principals, cX5_principals, 5, (some .int))
theorem si_X5_principals : SiV m_X5_principals 2 := ⟨⟨(wA 42 (by decide +kernel) rfl), (wA 471 (by decide +kernel) rfl), ⟨by decide +kernel, by decide +kernel, by decide +kernel⟩, by decide⟩, (wA 469 (by decide +kernel) rfl), (wA 470 (by decide +kernel) rfl)⟩
abbrev m_X5_notesFor : Ym := (yX5_notesFor, cX5_notesFor, 4, (some .int))
theorem si_X5_notesFor : SiV m_X5_notesFor 1 := ⟨⟨(wA 42 (by decide +kernel) rfl), (wA 699 (by decide +kernel) rfl), ⟨by decide +kernel, by decide +kernel, by decide +kernel⟩, by decide⟩, (wA 697 (by decide +kernel) rfl), (wA 698 (by decide +kernel) rfl)⟩
abbrev m_X5_principalsOf : Ym := (yX5_principalsOf, cX5_principalsOf, 4, (some .int))
theorem si_X5_principalsOf : SiV m_X5_principalsOf 1 := ⟨⟨(wA 42 (by decide +kernel) rfl), (wA 683 (by decide +kernel) rfl), ⟨by decide +kernel, by decide +kernel, by decide +kernel⟩, by decide⟩, (wA 681 (by decide +kernel) rfl), (wA 682 (by decide +kernel) rfl)⟩
abbrev m_X5_liveNotesOf : Ym := (yX5_liveNotesOf, cX5_liveNotesOf, 4, (some .int))
theorem si_X5_liveNotesOf : SiV m_X5_liveNotesOf 1 := ⟨⟨(wA 42 (by decide +kernel) rfl), (wA 687 (by decide +kernel) rfl), ⟨by decide +kernel, by decide +kernel, by decide +kernel⟩, by decide⟩, (wA 685 (by decide +kernel) rfl), (wA 686 (by decide +kernel) rfl)⟩
abbrev m_X5_loansOf : Ym := (yX5_loansOf, cX5_loansOf, 4, (some .int))
theorem si_X5_loansOf : SiV m_X5_loansOf 1 := ⟨⟨(wA 42 (by decide +kernel) rfl), (wA 691 (by decide +kernel) rfl), ⟨by decide +kernel, by decide +kernel, by decide +kernel⟩, by decide⟩, (wA 689 (by decide +kernel) rfl), (wA 690 (by decide +kernel) rfl)⟩
abbrev m_X5_loansInState : Ym := (yX5_loansInState, cX5_loansInState, 4, (some .int))
theorem si_X5_loansInState : SiV m_X5_loansInState 1 := ⟨⟨(wA 42 (by decide +kernel) rfl), (wA 729 (by decide +kernel) rfl), ⟨by decide +kernel, by decide +kernel, by decide +kernel⟩, by decide⟩, (wA 727 (by decide +kernel) rfl), (wA 728 (by decide +kernel) rfl)⟩
abbrev m_X5_loansServedBy : Ym := (yX5_loansServedBy, cX5_loansServedBy, 4, (some .int))
theorem si_X5_loansServedBy : SiV m_X5_loansServedBy 1 := ⟨⟨(wA 42 (by decide +kernel) rfl), (wA 721 (by decide +kernel) rfl), ⟨by decide +kernel, by decide +kernel, by decide +kernel⟩, by decide⟩, (wA 719 (by decide +kernel) rfl), (wA 720 (by decide +kernel) rfl)⟩
abbrev m_X5_loansInArrears : Ym := (yX5_loansInArrears, cX5_loansInArrears, 3, (some .int))
theorem si_X5_loansInArrears : SiV m_X5_loansInArrears 0 := ⟨⟨(wA 42 (by decide +kernel) rfl), (wA 636 (by decide +kernel) rfl), ⟨by decide +kernel, by decide +kernel, by decide +kernel⟩, by decide⟩, (wA 634 (by decide +kernel) rfl), (wA 635 (by decide +kernel) rfl)⟩
abbrev m_X5_ordersOfSwitches : Ym := (yX5_ordersOfSwitches, cX5_ordersOfSwitches, 3, (some .int))
theorem si_X5_ordersOfSwitches : SiV m_X5_ordersOfSwitches 0 := ⟨⟨(wA 42 (by decide +kernel) rfl), (wA 745 (by decide +kernel) rfl), ⟨by decide +kernel, by decide +kernel, by decide +kernel⟩, by decide⟩, (wA 743 (by decide +kernel) rfl), (wA 744 (by decide +kernel) rfl)⟩
abbrev m_X5_allPrincipals : Ym := (yX5_allPrincipals, cX5_allPrincipals, 3, (some .int))
theorem si_X5_allPrincipals : SiV m_X5_allPrincipals 0 := ⟨⟨(wA 42 (by decide +kernel) rfl), (wA 733 (by decide +kernel) rfl), ⟨by decide +kernel, by decide +kernel, by decide +kernel⟩, by decide⟩, (wA 731 (by decide +kernel) rfl), (wA 732 (by decide +kernel) rfl)⟩
abbrev m_X5_allInterestDue : Ym := (yX5_allInterestDue, cX5_allInterestDue, 3, (some .int))
theorem si_X5_allInterestDue : SiV m_X5_allInterestDue 0 := ⟨⟨(wA 42 (by decide +kernel) rfl), (wA 737 (by decide +kernel) rfl), ⟨by decide +kernel, by decide +kernel, by decide +kernel⟩, by decide⟩, (wA 735 (by decide +kernel) rfl), (wA 736 (by decide +kernel) rfl)⟩
abbrev m_X5_allLosses : Ym := (yX5_allLosses, cX5_allLosses, 3, (some .int))
theorem si_X5_allLosses : SiV m_X5_allLosses 0 := ⟨⟨(wA 42 (by decide +kernel) rfl), (wA 741 (by decide +kernel) rfl), ⟨by decide +kernel, by decide +kernel, by decide +kernel⟩, by decide⟩, (wA 739 (by decide +kernel) rfl), (wA 740 (by decide +kernel) rfl)⟩
abbrev m_X6_open : Ym := (yX6_open, cX6_open, 5, none)
theorem si_X6_open : SiV m_X6_open 4 := ⟨⟨(wA 45 (by decide +kernel) rfl), (wA 480 (by decide +kernel) rfl), ⟨by decide +kernel, by decide +kernel, by decide +kernel⟩, by decide⟩, (wA 478 (by decide +kernel) rfl), (wA 479 (by decide +kernel) rfl)⟩
abbrev m_X6_copyFrom : Ym := (yX6_copyFrom, cX6_copyFrom, 2, none)
theorem si_X6_copyFrom : SiV m_X6_copyFrom 1 := ⟨⟨(wA 45 (by decide +kernel) rfl), (wA 420 (by decide +kernel) rfl), ⟨by decide +kernel, by decide +kernel, by decide +kernel⟩, by decide⟩, (wA 418 (by decide +kernel) rfl), (wA 419 (by decide +kernel) rfl)⟩
abbrev m_X7_areOf : Ym := (yX7_areOf, cX7_areOf, 6, (some .boolean))
theorem si_X7_areOf : SiV m_X7_areOf 3 := ⟨⟨(wA 49 (by decide +kernel) rfl), (wA 537 (by decide +kernel) rfl), ⟨by decide +kernel, by decide +kernel, by decide +kernel⟩, by decide⟩, (wA 535 (by decide +kernel) rfl), (wA 536 (by decide +kernel) rfl)⟩
abbrev m_X8_ofGivingUp : Ym := (yX8_ofGivingUp, cX8_ofGivingUp, 4, none)
theorem si_X8_ofGivingUp : SiV m_X8_ofGivingUp 2 := ⟨⟨(wA 50 (by decide +kernel) rfl), (wA 502 (by decide +kernel) rfl), ⟨by decide +kernel, by decide +kernel, by decide +kernel⟩, by decide⟩, (wA 500 (by decide +kernel) rfl), (wA 501 (by decide +kernel) rfl)⟩
abbrev m_X8_ofPayment : Ym := (yX8_ofPayment, cX8_ofPayment, 4, none)
theorem si_X8_ofPayment : SiV m_X8_ofPayment 3 := ⟨⟨(wA 50 (by decide +kernel) rfl), (wA 556 (by decide +kernel) rfl), ⟨by decide +kernel, by decide +kernel, by decide +kernel⟩, by decide⟩, (wA 554 (by decide +kernel) rfl), (wA 555 (by decide +kernel) rfl)⟩
abbrev m_X8_ofSale : Ym := (yX8_ofSale, cX8_ofSale, 10, (some .int))
theorem si_X8_ofSale : SiV m_X8_ofSale 3 := ⟨⟨(wA 50 (by decide +kernel) rfl), (wA 594 (by decide +kernel) rfl), ⟨by decide +kernel, by decide +kernel, by decide +kernel⟩, by decide⟩, (wA 592 (by decide +kernel) rfl), (wA 593 (by decide +kernel) rfl)⟩
abbrev m_X8_fits : Ym := (yX8_fits, cX8_fits, 6, (some .boolean))
theorem si_X8_fits : SiV m_X8_fits 1 := ⟨⟨(wA 50 (by decide +kernel) rfl), (wA 514 (by decide +kernel) rfl), ⟨by decide +kernel, by decide +kernel, by decide +kernel⟩, by decide⟩, (wA 512 (by decide +kernel) rfl), (wA 513 (by decide +kernel) rfl)⟩
abbrev m_X8_carryOut : Ym := (yX8_carryOut, cX8_carryOut, 4, none)
theorem si_X8_carryOut : SiV m_X8_carryOut 1 := ⟨⟨(wA 50 (by decide +kernel) rfl), (wA 519 (by decide +kernel) rfl), ⟨by decide +kernel, by decide +kernel, by decide +kernel⟩, by decide⟩, (wA 517 (by decide +kernel) rfl), (wA 518 (by decide +kernel) rfl)⟩
abbrev m_X8_clear : Ym := (yX8_clear, cX8_clear, 2, none)
theorem si_X8_clear : SiV m_X8_clear 0 := ⟨⟨(wA 50 (by decide +kernel) rfl), (wA 506 (by decide +kernel) rfl), ⟨by decide +kernel, by decide +kernel, by decide +kernel⟩, by decide⟩, (wA 505 (by decide +kernel) rfl), (wA 1 (by decide +kernel) rfl)⟩
abbrev m_X8_shareByClass : Ym := (yX8_shareByClass, cX8_shareByClass, 5, none)
theorem si_X8_shareByClass : SiV m_X8_shareByClass 4 := ⟨⟨(wA 50 (by decide +kernel) rfl), (wA 564 (by decide +kernel) rfl), ⟨by decide +kernel, by decide +kernel, by decide +kernel⟩, by decide⟩, (wA 563 (by decide +kernel) rfl), (wA 4 (by decide +kernel) rfl)⟩
abbrev m_X8_weighPrincipals : Ym := (yX8_weighPrincipals, cX8_weighPrincipals, 8, none)
theorem si_X8_weighPrincipals : SiV m_X8_weighPrincipals 4 := ⟨⟨(wA 50 (by decide +kernel) rfl), (wA 510 (by decide +kernel) rfl), ⟨by decide +kernel, by decide +kernel, by decide +kernel⟩, by decide⟩, (wA 509 (by decide +kernel) rfl), (wA 2 (by decide +kernel) rfl)⟩
abbrev m_X8_shareOut : Ym := (yX8_shareOut, cX8_shareOut, 8, none)
theorem si_X8_shareOut : SiV m_X8_shareOut 2 := ⟨⟨(wA 50 (by decide +kernel) rfl), (wA 560 (by decide +kernel) rfl), ⟨by decide +kernel, by decide +kernel, by decide +kernel⟩, by decide⟩, (wA 559 (by decide +kernel) rfl), (wA 3 (by decide +kernel) rfl)⟩
abbrev m_X9_addInvestor : Ym := (yX9_addInvestor, cX9_addInvestor, 3, (some .int))
theorem si_X9_addInvestor : SiV m_X9_addInvestor 1 := ⟨⟨(wA 41 (by decide +kernel) rfl), (wA 396 (by decide +kernel) rfl), ⟨by decide +kernel, by decide +kernel, by decide +kernel⟩, by decide⟩, (wA 394 (by decide +kernel) rfl), (wA 395 (by decide +kernel) rfl)⟩
abbrev m_X9_deposit : Ym := (yX9_deposit, cX9_deposit, 3, (some .int))
theorem si_X9_deposit : SiV m_X9_deposit 2 := ⟨⟨(wA 41 (by decide +kernel) rfl), (wA 428 (by decide +kernel) rfl), ⟨by decide +kernel, by decide +kernel, by decide +kernel⟩, by decide⟩, (wA 426 (by decide +kernel) rfl), (wA 427 (by decide +kernel) rfl)⟩
abbrev m_X9_setPoolShare : Ym := (yX9_setPoolShare, cX9_setPoolShare, 3, (some .int))
theorem si_X9_setPoolShare : SiV m_X9_setPoolShare 1 := ⟨⟨(wA 41 (by decide +kernel) rfl), (wA 437 (by decide +kernel) rfl), ⟨by decide +kernel, by decide +kernel, by decide +kernel⟩, by decide⟩, (wA 435 (by decide +kernel) rfl), (wA 436 (by decide +kernel) rfl)⟩
abbrev m_X9_openLoan : Ym := (yX9_openLoan, cX9_openLoan, 5, (some .int))
theorem si_X9_openLoan : SiV m_X9_openLoan 3 := ⟨⟨(wA 41 (by decide +kernel) rfl), (wA 441 (by decide +kernel) rfl), ⟨by decide +kernel, by decide +kernel, by decide +kernel⟩, by decide⟩, (wA 439 (by decide +kernel) rfl), (wA 440 (by decide +kernel) rfl)⟩
abbrev m_X9_fund : Ym := (yX9_fund, cX9_fund, 6, (some .int))
theorem si_X9_fund : SiV m_X9_fund 4 := ⟨⟨(wA 41 (by decide +kernel) rfl), (wA 453 (by decide +kernel) rfl), ⟨by decide +kernel, by decide +kernel, by decide +kernel⟩, by decide⟩, (wA 451 (by decide +kernel) rfl), (wA 452 (by decide +kernel) rfl)⟩
abbrev m_X9_giveUp : Ym := (yX9_giveUp, cX9_giveUp, 3, (some .int))
theorem si_X9_giveUp : SiV m_X9_giveUp 1 := ⟨⟨(wA 41 (by decide +kernel) rfl), (wA 496 (by decide +kernel) rfl), ⟨by decide +kernel, by decide +kernel, by decide +kernel⟩, by decide⟩, (wA 494 (by decide +kernel) rfl), (wA 495 (by decide +kernel) rfl)⟩
abbrev m_X9_pay : Ym := (yX9_pay, cX9_pay, 3, (some .int))
theorem si_X9_pay : SiV m_X9_pay 2 := ⟨⟨(wA 41 (by decide +kernel) rfl), (wA 529 (by decide +kernel) rfl), ⟨by decide +kernel, by decide +kernel, by decide +kernel⟩, by decide⟩, (wA 527 (by decide +kernel) rfl), (wA 528 (by decide +kernel) rfl)⟩
abbrev m_X9_cure : Ym := (yX9_cure, cX9_cure, 4, (some .int))
theorem si_X9_cure : SiV m_X9_cure 2 := ⟨⟨(wA 41 (by decide +kernel) rfl), (wA 581 (by decide +kernel) rfl), ⟨by decide +kernel, by decide +kernel, by decide +kernel⟩, by decide⟩, (wA 579 (by decide +kernel) rfl), (wA 580 (by decide +kernel) rfl)⟩
abbrev m_X9_sell : Ym := (yX9_sell, cX9_sell, 4, (some .int))
theorem si_X9_sell : SiV m_X9_sell 2 := ⟨⟨(wA 41 (by decide +kernel) rfl), (wA 586 (by decide +kernel) rfl), ⟨by decide +kernel, by decide +kernel, by decide +kernel⟩, by decide⟩, (wA 584 (by decide +kernel) rfl), (wA 585 (by decide +kernel) rfl)⟩
abbrev m_X9_switchServicer : Ym := (yX9_switchServicer, cX9_switchServicer, 5, (some .int))
theorem si_X9_switchServicer : SiV m_X9_switchServicer 2 := ⟨⟨(wA 41 (by decide +kernel) rfl), (wA 605 (by decide +kernel) rfl), ⟨by decide +kernel, by decide +kernel, by decide +kernel⟩, by decide⟩, (wA 603 (by decide +kernel) rfl), (wA 604 (by decide +kernel) rfl)⟩
abbrev m_X9_sellNote : Ym := (yX9_sellNote, cX9_sellNote, 6, (some .int))
theorem si_X9_sellNote : SiV m_X9_sellNote 3 := ⟨⟨(wA 41 (by decide +kernel) rfl), (wA 609 (by decide +kernel) rfl), ⟨by decide +kernel, by decide +kernel, by decide +kernel⟩, by decide⟩, (wA 607 (by decide +kernel) rfl), (wA 608 (by decide +kernel) rfl)⟩
abbrev m_X9_pass : Ym := (yX9_pass, cX9_pass, 3, (some .int))
theorem si_X9_pass : SiV m_X9_pass 1 := ⟨⟨(wA 41 (by decide +kernel) rfl), (wA 622 (by decide +kernel) rfl), ⟨by decide +kernel, by decide +kernel, by decide +kernel⟩, by decide⟩, (wA 620 (by decide +kernel) rfl), (wA 621 (by decide +kernel) rfl)⟩
abbrev m_X9_type : Ym := (yX9_type, cX9_type, 2, (some .int))
theorem si_X9_type : SiV m_X9_type 1 := ⟨⟨(wA 41 (by decide +kernel) rfl), (wA 640 (by decide +kernel) rfl), ⟨by decide +kernel, by decide +kernel, by decide +kernel⟩, by decide⟩, (wA 638 (by decide +kernel) rfl), (wA 639 (by decide +kernel) rfl)⟩
abbrev m_X9_clearText : Ym := (yX9_clearText, cX9_clearText, 2, (some .int))
theorem si_X9_clearText : SiV m_X9_clearText 0 := ⟨⟨(wA 41 (by decide +kernel) rfl), (wA 644 (by decide +kernel) rfl), ⟨by decide +kernel, by decide +kernel, by decide +kernel⟩, by decide⟩, (wA 642 (by decide +kernel) rfl), (wA 643 (by decide +kernel) rfl)⟩
abbrev m_X9_readFundings : Ym := (yX9_readFundings, cX9_readFundings, 5, (some .int))
theorem si_X9_readFundings : SiV m_X9_readFundings 0 := ⟨⟨(wA 41 (by decide +kernel) rfl), (wA 648 (by decide +kernel) rfl), ⟨by decide +kernel, by decide +kernel, by decide +kernel⟩, by decide⟩, (wA 646 (by decide +kernel) rfl), (wA 647 (by decide +kernel) rfl)⟩
abbrev m_X9_undo : Ym := (yX9_undo, cX9_undo, 1, (some .int))
theorem si_X9_undo : SiV m_X9_undo 0 := ⟨⟨(wA 41 (by decide +kernel) rfl), (wA 663 (by decide +kernel) rfl), ⟨by decide +kernel, by decide +kernel, by decide +kernel⟩, by decide⟩, (wA 661 (by decide +kernel) rfl), (wA 662 (by decide +kernel) rfl)⟩
abbrev m_X9_keep : Ym := (yX9_keep, cX9_keep, 1, (some .int))
theorem si_X9_keep : SiV m_X9_keep 0 := ⟨⟨(wA 41 (by decide +kernel) rfl), (wA 671 (by decide +kernel) rfl), ⟨by decide +kernel, by decide +kernel, by decide +kernel⟩, by decide⟩, (wA 669 (by decide +kernel) rfl), (wA 670 (by decide +kernel) rfl)⟩
abbrev m_X9_restore : Ym := (yX9_restore, cX9_restore, 1, (some .int))
theorem si_X9_restore : SiV m_X9_restore 0 := ⟨⟨(wA 41 (by decide +kernel) rfl), (wA 675 (by decide +kernel) rfl), ⟨by decide +kernel, by decide +kernel, by decide +kernel⟩, by decide⟩, (wA 673 (by decide +kernel) rfl), (wA 674 (by decide +kernel) rfl)⟩
abbrev m_X9_investor : Ym := (yX9_investor, cX9_investor, 4, (some .int))
theorem si_X9_investor : SiV m_X9_investor 2 := ⟨⟨(wA 41 (by decide +kernel) rfl), (wA 679 (by decide +kernel) rfl), ⟨by decide +kernel, by decide +kernel, by decide +kernel⟩, by decide⟩, (wA 677 (by decide +kernel) rfl), (wA 678 (by decide +kernel) rfl)⟩
abbrev m_X9_loan : Ym := (yX9_loan, cX9_loan, 4, (some .int))
theorem si_X9_loan : SiV m_X9_loan 2 := ⟨⟨(wA 41 (by decide +kernel) rfl), (wA 695 (by decide +kernel) rfl), ⟨by decide +kernel, by decide +kernel, by decide +kernel⟩, by decide⟩, (wA 693 (by decide +kernel) rfl), (wA 694 (by decide +kernel) rfl)⟩
abbrev m_X9_note : Ym := (yX9_note, cX9_note, 4, (some .int))
theorem si_X9_note : SiV m_X9_note 2 := ⟨⟨(wA 41 (by decide +kernel) rfl), (wA 703 (by decide +kernel) rfl), ⟨by decide +kernel, by decide +kernel, by decide +kernel⟩, by decide⟩, (wA 701 (by decide +kernel) rfl), (wA 702 (by decide +kernel) rfl)⟩
abbrev m_X9_split : Ym := (yX9_split, cX9_split, 4, (some .int))
theorem si_X9_split : SiV m_X9_split 3 := ⟨⟨(wA 41 (by decide +kernel) rfl), (wA 707 (by decide +kernel) rfl), ⟨by decide +kernel, by decide +kernel, by decide +kernel⟩, by decide⟩, (wA 705 (by decide +kernel) rfl), (wA 706 (by decide +kernel) rfl)⟩
abbrev m_X9_toRepay : Ym := (yX9_toRepay, cX9_toRepay, 6, (some .int))
theorem si_X9_toRepay : SiV m_X9_toRepay 1 := ⟨⟨(wA 41 (by decide +kernel) rfl), (wA 711 (by decide +kernel) rfl), ⟨by decide +kernel, by decide +kernel, by decide +kernel⟩, by decide⟩, (wA 709 (by decide +kernel) rfl), (wA 710 (by decide +kernel) rfl)⟩
abbrev m_X9_servicer : Ym := (yX9_servicer, cX9_servicer, 3, (some .int))
theorem si_X9_servicer : SiV m_X9_servicer 2 := ⟨⟨(wA 41 (by decide +kernel) rfl), (wA 717 (by decide +kernel) rfl), ⟨by decide +kernel, by decide +kernel, by decide +kernel⟩, by decide⟩, (wA 715 (by decide +kernel) rfl), (wA 716 (by decide +kernel) rfl)⟩
abbrev m_X9_count : Ym := (yX9_count, cX9_count, 2, (some .int))
theorem si_X9_count : SiV m_X9_count 1 := ⟨⟨(wA 41 (by decide +kernel) rfl), (wA 725 (by decide +kernel) rfl), ⟨by decide +kernel, by decide +kernel, by decide +kernel⟩, by decide⟩, (wA 723 (by decide +kernel) rfl), (wA 724 (by decide +kernel) rfl)⟩
abbrev m_X9_isServicer : Ym := (yX9_isServicer, cX9_isServicer, 1, (some .boolean))
theorem si_X9_isServicer : SiS m_X9_isServicer 1 := ⟨⟨(wA 41 (by decide +kernel) rfl), (wA 547 (by decide +kernel) rfl), ⟨by decide +kernel, by decide +kernel, by decide +kernel⟩, by decide⟩, (wA 546 (by decide +kernel) rfl)⟩
abbrev m_X9_isLoanMonths : Ym := (yX9_isLoanMonths, cX9_isLoanMonths, 1, (some .boolean))
theorem si_X9_isLoanMonths : SiS m_X9_isLoanMonths 1 := ⟨⟨(wA 41 (by decide +kernel) rfl), (wA 445 (by decide +kernel) rfl), ⟨by decide +kernel, by decide +kernel, by decide +kernel⟩, by decide⟩, (wA 444 (by decide +kernel) rfl)⟩
abbrev m_X9_isPayment : Ym := (yX9_isPayment, cX9_isPayment, 1, (some .boolean))
theorem si_X9_isPayment : SiS m_X9_isPayment 1 := ⟨⟨(wA 41 (by decide +kernel) rfl), (wA 532 (by decide +kernel) rfl), ⟨by decide +kernel, by decide +kernel, by decide +kernel⟩, by decide⟩, (wA 531 (by decide +kernel) rfl)⟩
abbrev m_X9_isPrice : Ym := (yX9_isPrice, cX9_isPrice, 1, (some .boolean))
theorem si_X9_isPrice : SiS m_X9_isPrice 1 := ⟨⟨(wA 41 (by decide +kernel) rfl), (wA 589 (by decide +kernel) rfl), ⟨by decide +kernel, by decide +kernel, by decide +kernel⟩, by decide⟩, (wA 588 (by decide +kernel) rfl)⟩
abbrev m_X9_feeOf : Ym := (yX9_feeOf, cX9_feeOf, 1, (some .int))
theorem si_X9_feeOf : SiS m_X9_feeOf 1 := ⟨⟨(wA 41 (by decide +kernel) rfl), (wA 544 (by decide +kernel) rfl), ⟨by decide +kernel, by decide +kernel, by decide +kernel⟩, by decide⟩, (wA 543 (by decide +kernel) rfl)⟩
abbrev m_X9_dividedUp : Ym := (yX9_dividedUp, cX9_dividedUp, 2, (some .int))
theorem si_X9_dividedUp : SiS m_X9_dividedUp 2 := ⟨⟨(wA 41 (by decide +kernel) rfl), (wA 491 (by decide +kernel) rfl), ⟨by decide +kernel, by decide +kernel, by decide +kernel⟩, by decide⟩, (wA 490 (by decide +kernel) rfl)⟩
abbrev m_X10_in : Ym := (yX10_in, cX10_in, 3, (some .boolean))
theorem si_X10_in : SiS m_X10_in 3 := ⟨⟨(wA 51 (by decide +kernel) rfl), (wA 824 (by decide +kernel) rfl), ⟨by decide +kernel, by decide +kernel, by decide +kernel⟩, by decide⟩, (wA 823 (by decide +kernel) rfl)⟩
abbrev m_X10_of : Ym := (yX10_of, cX10_of, 3, (some .int))
theorem si_X10_of : SiV m_X10_of 2 := ⟨⟨(wA 51 (by decide +kernel) rfl), (wA 858 (by decide +kernel) rfl), ⟨by decide +kernel, by decide +kernel, by decide +kernel⟩, by decide⟩, (wA 857 (by decide +kernel) rfl), (wA 13 (by decide +kernel) rfl)⟩
abbrev m_X10_be : Ym := (yX10_be, cX10_be, 4, none)
theorem si_X10_be : SiV m_X10_be 3 := ⟨⟨(wA 51 (by decide +kernel) rfl), (wA 842 (by decide +kernel) rfl), ⟨by decide +kernel, by decide +kernel, by decide +kernel⟩, by decide⟩, (wA 841 (by decide +kernel) rfl), (wA 10 (by decide +kernel) rfl)⟩
abbrev m_X10_ofNote : Ym := (yX10_ofNote, cX10_ofNote, 3, (some .int))
theorem si_X10_ofNote : SiV m_X10_ofNote 2 := ⟨⟨(wA 51 (by decide +kernel) rfl), (wA 870 (by decide +kernel) rfl), ⟨by decide +kernel, by decide +kernel, by decide +kernel⟩, by decide⟩, (wA 869 (by decide +kernel) rfl), (wA 16 (by decide +kernel) rfl)⟩
abbrev m_X10_more : Ym := (yX10_more, cX10_more, 4, none)
theorem si_X10_more : SiV m_X10_more 3 := ⟨⟨(wA 51 (by decide +kernel) rfl), (wA 881 (by decide +kernel) rfl), ⟨by decide +kernel, by decide +kernel, by decide +kernel⟩, by decide⟩, (wA 880 (by decide +kernel) rfl), (wA 17 (by decide +kernel) rfl)⟩
abbrev m_X10_isInvestor : Ym := (yX10_isInvestor, cX10_isInvestor, 2, (some .boolean))
theorem si_X10_isInvestor : SiV m_X10_isInvestor 1 := ⟨⟨(wA 51 (by decide +kernel) rfl), (wA 821 (by decide +kernel) rfl), ⟨by decide +kernel, by decide +kernel, by decide +kernel⟩, by decide⟩, (wA 820 (by decide +kernel) rfl), (wA 8 (by decide +kernel) rfl)⟩
abbrev m_X10_isLoan : Ym := (yX10_isLoan, cX10_isLoan, 2, (some .boolean))
theorem si_X10_isLoan : SiV m_X10_isLoan 1 := ⟨⟨(wA 51 (by decide +kernel) rfl), (wA 854 (by decide +kernel) rfl), ⟨by decide +kernel, by decide +kernel, by decide +kernel⟩, by decide⟩, (wA 853 (by decide +kernel) rfl), (wA 12 (by decide +kernel) rfl)⟩
abbrev m_X10_isNote : Ym := (yX10_isNote, cX10_isNote, 2, (some .boolean))
theorem si_X10_isNote : SiV m_X10_isNote 1 := ⟨⟨(wA 51 (by decide +kernel) rfl), (wA 950 (by decide +kernel) rfl), ⟨by decide +kernel, by decide +kernel, by decide +kernel⟩, by decide⟩, (wA 949 (by decide +kernel) rfl), (wA 27 (by decide +kernel) rfl)⟩
abbrev m_X10_isServicer : Ym := (yX10_isServicer, cX10_isServicer, 1, (some .boolean))
theorem si_X10_isServicer : SiS m_X10_isServicer 1 := ⟨⟨(wA 51 (by decide +kernel) rfl), (wA 942 (by decide +kernel) rfl), ⟨by decide +kernel, by decide +kernel, by decide +kernel⟩, by decide⟩, (wA 941 (by decide +kernel) rfl)⟩
abbrev m_X10_runs : Ym := (yX10_runs, cX10_runs, 2, (some .boolean))
theorem si_X10_runs : SiV m_X10_runs 1 := ⟨⟨(wA 51 (by decide +kernel) rfl), (wA 898 (by decide +kernel) rfl), ⟨by decide +kernel, by decide +kernel, by decide +kernel⟩, by decide⟩, (wA 897 (by decide +kernel) rfl), (wA 20 (by decide +kernel) rfl)⟩
abbrev m_X10_feeOf : Ym := (yX10_feeOf, cX10_feeOf, 1, (some .int))
theorem si_X10_feeOf : SiS m_X10_feeOf 1 := ⟨⟨(wA 51 (by decide +kernel) rfl), (wA 905 (by decide +kernel) rfl), ⟨by decide +kernel, by decide +kernel, by decide +kernel⟩, by decide⟩, (wA 904 (by decide +kernel) rfl)⟩
abbrev m_X10_aside : Ym := (yX10_aside, cX10_aside, 2, none)
theorem si_X10_aside : SiV m_X10_aside 0 := ⟨⟨(wA 51 (by decide +kernel) rfl), (wA 805 (by decide +kernel) rfl), ⟨by decide +kernel, by decide +kernel, by decide +kernel⟩, by decide⟩, (wA 804 (by decide +kernel) rfl), (wA 5 (by decide +kernel) rfl)⟩
abbrev m_X10_putBack : Ym := (yX10_putBack, cX10_putBack, 2, none)
theorem si_X10_putBack : SiV m_X10_putBack 0 := ⟨⟨(wA 51 (by decide +kernel) rfl), (wA 813 (by decide +kernel) rfl), ⟨by decide +kernel, by decide +kernel, by decide +kernel⟩, by decide⟩, (wA 812 (by decide +kernel) rfl), (wA 7 (by decide +kernel) rfl)⟩
abbrev m_X10_acted : Ym := (yX10_acted, cX10_acted, 3, (some .int))
theorem si_X10_acted : SiV m_X10_acted 1 := ⟨⟨(wA 51 (by decide +kernel) rfl), (wA 809 (by decide +kernel) rfl), ⟨by decide +kernel, by decide +kernel, by decide +kernel⟩, by decide⟩, (wA 808 (by decide +kernel) rfl), (wA 6 (by decide +kernel) rfl)⟩
abbrev m_X10_payOut : Ym := (yX10_payOut, cX10_payOut, 4, none)
theorem si_X10_payOut : SiV m_X10_payOut 2 := ⟨⟨(wA 51 (by decide +kernel) rfl), (wA 828 (by decide +kernel) rfl), ⟨by decide +kernel, by decide +kernel, by decide +kernel⟩, by decide⟩, (wA 827 (by decide +kernel) rfl), (wA 9 (by decide +kernel) rfl)⟩
abbrev m_X10_addInvestor : Ym := (yX10_addInvestor, cX10_addInvestor, 2, (some .int))
theorem si_X10_addInvestor : SiV m_X10_addInvestor 1 := ⟨⟨(wA 51 (by decide +kernel) rfl), (wA 801 (by decide +kernel) rfl), ⟨by decide +kernel, by decide +kernel, by decide +kernel⟩, by decide⟩, (wA 799 (by decide +kernel) rfl), (wA 800 (by decide +kernel) rfl)⟩
abbrev m_X10_deposit : Ym := (yX10_deposit, cX10_deposit, 3, (some .int))
theorem si_X10_deposit : SiV m_X10_deposit 2 := ⟨⟨(wA 51 (by decide +kernel) rfl), (wA 817 (by decide +kernel) rfl), ⟨by decide +kernel, by decide +kernel, by decide +kernel⟩, by decide⟩, (wA 815 (by decide +kernel) rfl), (wA 816 (by decide +kernel) rfl)⟩
abbrev m_X10_setPoolShare : Ym := (yX10_setPoolShare, cX10_setPoolShare, 3, (some .int))
theorem si_X10_setPoolShare : SiV m_X10_setPoolShare 1 := ⟨⟨(wA 51 (by decide +kernel) rfl), (wA 833 (by decide +kernel) rfl), ⟨by decide +kernel, by decide +kernel, by decide +kernel⟩, by decide⟩, (wA 831 (by decide +kernel) rfl), (wA 832 (by decide +kernel) rfl)⟩
abbrev m_X10_openLoan : Ym := (yX10_openLoan, cX10_openLoan, 6, (some .int))
theorem si_X10_openLoan : SiV m_X10_openLoan 3 := ⟨⟨(wA 51 (by decide +kernel) rfl), (wA 837 (by decide +kernel) rfl), ⟨by decide +kernel, by decide +kernel, by decide +kernel⟩, by decide⟩, (wA 835 (by decide +kernel) rfl), (wA 836 (by decide +kernel) rfl)⟩
abbrev m_X10_principals : Ym := (yX10_principals, cX10_principals, 5, (some .int))
theorem si_X10_principals : SiV m_X10_principals 2 := ⟨⟨(wA 51 (by decide +kernel) rfl), (wA 866 (by decide +kernel) rfl), ⟨by decide +kernel, by decide +kernel, by decide +kernel⟩, by decide⟩, (wA 865 (by decide +kernel) rfl), (wA 15 (by decide +kernel) rfl)⟩
abbrev m_X10_missing : Ym := (yX10_missing, cX10_missing, 2, (some .int))
theorem si_X10_missing : SiV m_X10_missing 1 := ⟨⟨(wA 51 (by decide +kernel) rfl), (wA 862 (by decide +kernel) rfl), ⟨by decide +kernel, by decide +kernel, by decide +kernel⟩, by decide⟩, (wA 861 (by decide +kernel) rfl), (wA 14 (by decide +kernel) rfl)⟩
abbrev m_X10_upwards : Ym := (yX10_upwards, cX10_upwards, 2, (some .int))
theorem si_X10_upwards : SiS m_X10_upwards 2 := ⟨⟨(wA 51 (by decide +kernel) rfl), (wA 873 (by decide +kernel) rfl), ⟨by decide +kernel, by decide +kernel, by decide +kernel⟩, by decide⟩, (wA 872 (by decide +kernel) rfl)⟩
abbrev m_X10_funds : Ym := (yX10_funds, cX10_funds, 7, (some .int))
theorem si_X10_funds : SiV m_X10_funds 4 := ⟨⟨(wA 51 (by decide +kernel) rfl), (wA 850 (by decide +kernel) rfl), ⟨by decide +kernel, by decide +kernel, by decide +kernel⟩, by decide⟩, (wA 849 (by decide +kernel) rfl), (wA 11 (by decide +kernel) rfl)⟩
abbrev m_X10_fund : Ym := (yX10_fund, cX10_fund, 6, (some .int))
theorem si_X10_fund : SiV m_X10_fund 4 := ⟨⟨(wA 51 (by decide +kernel) rfl), (wA 846 (by decide +kernel) rfl), ⟨by decide +kernel, by decide +kernel, by decide +kernel⟩, by decide⟩, (wA 844 (by decide +kernel) rfl), (wA 845 (by decide +kernel) rfl)⟩
abbrev m_X10_ends : Ym := (yX10_ends, cX10_ends, 3, none)
theorem si_X10_ends : SiV m_X10_ends 2 := ⟨⟨(wA 51 (by decide +kernel) rfl), (wA 885 (by decide +kernel) rfl), ⟨by decide +kernel, by decide +kernel, by decide +kernel⟩, by decide⟩, (wA 884 (by decide +kernel) rfl), (wA 18 (by decide +kernel) rfl)⟩
abbrev m_X10_giveUp : Ym := (yX10_giveUp, cX10_giveUp, 4, (some .int))
theorem si_X10_giveUp : SiV m_X10_giveUp 1 := ⟨⟨(wA 51 (by decide +kernel) rfl), (wA 877 (by decide +kernel) rfl), ⟨by decide +kernel, by decide +kernel, by decide +kernel⟩, by decide⟩, (wA 875 (by decide +kernel) rfl), (wA 876 (by decide +kernel) rfl)⟩
abbrev m_X10_weigh : Ym := (yX10_weigh, cX10_weigh, 5, (some .int))
theorem si_X10_weigh : SiV m_X10_weigh 2 := ⟨⟨(wA 51 (by decide +kernel) rfl), (wA 919 (by decide +kernel) rfl), ⟨by decide +kernel, by decide +kernel, by decide +kernel⟩, by decide⟩, (wA 918 (by decide +kernel) rfl), (wA 24 (by decide +kernel) rfl)⟩
abbrev m_X10_share : Ym := (yX10_share, cX10_share, 6, none)
theorem si_X10_share : SiV m_X10_share 2 := ⟨⟨(wA 51 (by decide +kernel) rfl), (wA 923 (by decide +kernel) rfl), ⟨by decide +kernel, by decide +kernel, by decide +kernel⟩, by decide⟩, (wA 922 (by decide +kernel) rfl), (wA 25 (by decide +kernel) rfl)⟩
abbrev m_X10_payInterest : Ym := (yX10_payInterest, cX10_payInterest, 4, none)
theorem si_X10_payInterest : SiV m_X10_payInterest 2 := ⟨⟨(wA 51 (by decide +kernel) rfl), (wA 915 (by decide +kernel) rfl), ⟨by decide +kernel, by decide +kernel, by decide +kernel⟩, by decide⟩, (wA 914 (by decide +kernel) rfl), (wA 23 (by decide +kernel) rfl)⟩
abbrev m_X10_payPrincipal : Ym := (yX10_payPrincipal, cX10_payPrincipal, 7, (some .int))
theorem si_X10_payPrincipal : SiV m_X10_payPrincipal 3 := ⟨⟨(wA 51 (by decide +kernel) rfl), (wA 927 (by decide +kernel) rfl), ⟨by decide +kernel, by decide +kernel, by decide +kernel⟩, by decide⟩, (wA 926 (by decide +kernel) rfl), (wA 26 (by decide +kernel) rfl)⟩
abbrev m_X10_feeFor : Ym := (yX10_feeFor, cX10_feeFor, 3, (some .int))
theorem si_X10_feeFor : SiV m_X10_feeFor 2 := ⟨⟨(wA 51 (by decide +kernel) rfl), (wA 902 (by decide +kernel) rfl), ⟨by decide +kernel, by decide +kernel, by decide +kernel⟩, by decide⟩, (wA 901 (by decide +kernel) rfl), (wA 21 (by decide +kernel) rfl)⟩
abbrev m_X10_canPay : Ym := (yX10_canPay, cX10_canPay, 3, (some .boolean))
theorem si_X10_canPay : SiV m_X10_canPay 2 := ⟨⟨(wA 51 (by decide +kernel) rfl), (wA 894 (by decide +kernel) rfl), ⟨by decide +kernel, by decide +kernel, by decide +kernel⟩, by decide⟩, (wA 893 (by decide +kernel) rfl), (wA 19 (by decide +kernel) rfl)⟩
abbrev m_X10_splitBy : Ym := (yX10_splitBy, cX10_splitBy, 9, (some .int))
theorem si_X10_splitBy : SiV m_X10_splitBy 3 := ⟨⟨(wA 51 (by decide +kernel) rfl), (wA 910 (by decide +kernel) rfl), ⟨by decide +kernel, by decide +kernel, by decide +kernel⟩, by decide⟩, (wA 909 (by decide +kernel) rfl), (wA 22 (by decide +kernel) rfl)⟩
abbrev m_X10_pay : Ym := (yX10_pay, cX10_pay, 6, (some .int))
theorem si_X10_pay : SiV m_X10_pay 2 := ⟨⟨(wA 51 (by decide +kernel) rfl), (wA 889 (by decide +kernel) rfl), ⟨by decide +kernel, by decide +kernel, by decide +kernel⟩, by decide⟩, (wA 887 (by decide +kernel) rfl), (wA 888 (by decide +kernel) rfl)⟩
abbrev m_X10_cure : Ym := (yX10_cure, cX10_cure, 3, (some .int))
theorem si_X10_cure : SiV m_X10_cure 2 := ⟨⟨(wA 51 (by decide +kernel) rfl), (wA 931 (by decide +kernel) rfl), ⟨by decide +kernel, by decide +kernel, by decide +kernel⟩, by decide⟩, (wA 929 (by decide +kernel) rfl), (wA 930 (by decide +kernel) rfl)⟩
abbrev m_X10_sell : Ym := (yX10_sell, cX10_sell, 6, (some .int))
theorem si_X10_sell : SiV m_X10_sell 2 := ⟨⟨(wA 51 (by decide +kernel) rfl), (wA 935 (by decide +kernel) rfl), ⟨by decide +kernel, by decide +kernel, by decide +kernel⟩, by decide⟩, (wA 933 (by decide +kernel) rfl), (wA 934 (by decide +kernel) rfl)⟩
abbrev m_X10_switchServicer : Ym := (yX10_switchServicer, cX10_switchServicer, 4, (some .int))
theorem si_X10_switchServicer : SiV m_X10_switchServicer 2 := ⟨⟨(wA 51 (by decide +kernel) rfl), (wA 939 (by decide +kernel) rfl), ⟨by decide +kernel, by decide +kernel, by decide +kernel⟩, by decide⟩, (wA 937 (by decide +kernel) rfl), (wA 938 (by decide +kernel) rfl)⟩
abbrev m_X10_sellNote : Ym := (yX10_sellNote, cX10_sellNote, 4, (some .int))
theorem si_X10_sellNote : SiV m_X10_sellNote 3 := ⟨⟨(wA 51 (by decide +kernel) rfl), (wA 946 (by decide +kernel) rfl), ⟨by decide +kernel, by decide +kernel, by decide +kernel⟩, by decide⟩, (wA 944 (by decide +kernel) rfl), (wA 945 (by decide +kernel) rfl)⟩
abbrev m_X10_inArrears : Ym := (yX10_inArrears, cX10_inArrears, 3, (some .int))
theorem si_X10_inArrears : SiV m_X10_inArrears 0 := ⟨⟨(wA 51 (by decide +kernel) rfl), (wA 962 (by decide +kernel) rfl), ⟨by decide +kernel, by decide +kernel, by decide +kernel⟩, by decide⟩, (wA 961 (by decide +kernel) rfl), (wA 29 (by decide +kernel) rfl)⟩
abbrev m_X10_month : Ym := (yX10_month, cX10_month, 3, none)
theorem si_X10_month : SiV m_X10_month 1 := ⟨⟨(wA 51 (by decide +kernel) rfl), (wA 958 (by decide +kernel) rfl), ⟨by decide +kernel, by decide +kernel, by decide +kernel⟩, by decide⟩, (wA 957 (by decide +kernel) rfl), (wA 28 (by decide +kernel) rfl)⟩
abbrev m_X10_pass : Ym := (yX10_pass, cX10_pass, 4, (some .int))
theorem si_X10_pass : SiV m_X10_pass 1 := ⟨⟨(wA 51 (by decide +kernel) rfl), (wA 954 (by decide +kernel) rfl), ⟨by decide +kernel, by decide +kernel, by decide +kernel⟩, by decide⟩, (wA 952 (by decide +kernel) rfl), (wA 953 (by decide +kernel) rfl)⟩
abbrev m_X10_type : Ym := (yX10_type, cX10_type, 2, (some .int))
theorem si_X10_type : SiV m_X10_type 1 := ⟨⟨(wA 51 (by decide +kernel) rfl), (wA 966 (by decide +kernel) rfl), ⟨by decide +kernel, by decide +kernel, by decide +kernel⟩, by decide⟩, (wA 964 (by decide +kernel) rfl), (wA 965 (by decide +kernel) rfl)⟩
abbrev m_X10_clearText : Ym := (yX10_clearText, cX10_clearText, 2, (some .int))
theorem si_X10_clearText : SiV m_X10_clearText 0 := ⟨⟨(wA 51 (by decide +kernel) rfl), (wA 970 (by decide +kernel) rfl), ⟨by decide +kernel, by decide +kernel, by decide +kernel⟩, by decide⟩, (wA 968 (by decide +kernel) rfl), (wA 969 (by decide +kernel) rfl)⟩
abbrev m_X10_look : Ym := (yX10_look, cX10_look, 1, (some .int))
theorem si_X10_look : SiV m_X10_look 0 := ⟨⟨(wA 51 (by decide +kernel) rfl), (wA 986 (by decide +kernel) rfl), ⟨by decide +kernel, by decide +kernel, by decide +kernel⟩, by decide⟩, (wA 985 (by decide +kernel) rfl), (wA 32 (by decide +kernel) rfl)⟩
abbrev m_X10_must : Ym := (yX10_must, cX10_must, 2, none)
theorem si_X10_must : SiV m_X10_must 1 := ⟨⟨(wA 51 (by decide +kernel) rfl), (wA 990 (by decide +kernel) rfl), ⟨by decide +kernel, by decide +kernel, by decide +kernel⟩, by decide⟩, (wA 989 (by decide +kernel) rfl), (wA 33 (by decide +kernel) rfl)⟩
abbrev m_X10_digit : Ym := (yX10_digit, cX10_digit, 3, (some .int))
theorem si_X10_digit : SiV m_X10_digit 1 := ⟨⟨(wA 51 (by decide +kernel) rfl), (wA 982 (by decide +kernel) rfl), ⟨by decide +kernel, by decide +kernel, by decide +kernel⟩, by decide⟩, (wA 981 (by decide +kernel) rfl), (wA 31 (by decide +kernel) rfl)⟩
abbrev m_X10_tell : Ym := (yX10_tell, cX10_tell, 4, none)
theorem si_X10_tell : SiV m_X10_tell 1 := ⟨⟨(wA 51 (by decide +kernel) rfl), (wA 978 (by decide +kernel) rfl), ⟨by decide +kernel, by decide +kernel, by decide +kernel⟩, by decide⟩, (wA 977 (by decide +kernel) rfl), (wA 30 (by decide +kernel) rfl)⟩
abbrev m_X10_readFundings : Ym := (yX10_readFundings, cX10_readFundings, 5, (some .int))
theorem si_X10_readFundings : SiV m_X10_readFundings 0 := ⟨⟨(wA 51 (by decide +kernel) rfl), (wA 974 (by decide +kernel) rfl), ⟨by decide +kernel, by decide +kernel, by decide +kernel⟩, by decide⟩, (wA 972 (by decide +kernel) rfl), (wA 973 (by decide +kernel) rfl)⟩
abbrev m_X10_undo : Ym := (yX10_undo, cX10_undo, 2, (some .int))
theorem si_X10_undo : SiV m_X10_undo 0 := ⟨⟨(wA 51 (by decide +kernel) rfl), (wA 994 (by decide +kernel) rfl), ⟨by decide +kernel, by decide +kernel, by decide +kernel⟩, by decide⟩, (wA 992 (by decide +kernel) rfl), (wA 993 (by decide +kernel) rfl)⟩
abbrev m_X10_keep : Ym := (yX10_keep, cX10_keep, 2, (some .int))
theorem si_X10_keep : SiV m_X10_keep 0 := ⟨⟨(wA 51 (by decide +kernel) rfl), (wA 998 (by decide +kernel) rfl), ⟨by decide +kernel, by decide +kernel, by decide +kernel⟩, by decide⟩, (wA 996 (by decide +kernel) rfl), (wA 997 (by decide +kernel) rfl)⟩
abbrev m_X10_restore : Ym := (yX10_restore, cX10_restore, 2, (some .int))
theorem si_X10_restore : SiV m_X10_restore 0 := ⟨⟨(wA 51 (by decide +kernel) rfl), (wA 1002 (by decide +kernel) rfl), ⟨by decide +kernel, by decide +kernel, by decide +kernel⟩, by decide⟩, (wA 1000 (by decide +kernel) rfl), (wA 1001 (by decide +kernel) rfl)⟩
abbrev m_X10_held : Ym := (yX10_held, cX10_held, 5, (some .int))
theorem si_X10_held : SiV m_X10_held 2 := ⟨⟨(wA 51 (by decide +kernel) rfl), (wA 1010 (by decide +kernel) rfl), ⟨by decide +kernel, by decide +kernel, by decide +kernel⟩, by decide⟩, (wA 1009 (by decide +kernel) rfl), (wA 34 (by decide +kernel) rfl)⟩
abbrev m_X10_investor : Ym := (yX10_investor, cX10_investor, 3, (some .int))
theorem si_X10_investor : SiV m_X10_investor 2 := ⟨⟨(wA 51 (by decide +kernel) rfl), (wA 1006 (by decide +kernel) rfl), ⟨by decide +kernel, by decide +kernel, by decide +kernel⟩, by decide⟩, (wA 1004 (by decide +kernel) rfl), (wA 1005 (by decide +kernel) rfl)⟩
abbrev m_X10_notesOf : Ym := (yX10_notesOf, cX10_notesOf, 4, (some .int))
theorem si_X10_notesOf : SiV m_X10_notesOf 1 := ⟨⟨(wA 51 (by decide +kernel) rfl), (wA 1018 (by decide +kernel) rfl), ⟨by decide +kernel, by decide +kernel, by decide +kernel⟩, by decide⟩, (wA 1017 (by decide +kernel) rfl), (wA 35 (by decide +kernel) rfl)⟩
abbrev m_X10_loan : Ym := (yX10_loan, cX10_loan, 3, (some .int))
theorem si_X10_loan : SiV m_X10_loan 2 := ⟨⟨(wA 51 (by decide +kernel) rfl), (wA 1014 (by decide +kernel) rfl), ⟨by decide +kernel, by decide +kernel, by decide +kernel⟩, by decide⟩, (wA 1012 (by decide +kernel) rfl), (wA 1013 (by decide +kernel) rfl)⟩
abbrev m_X10_note : Ym := (yX10_note, cX10_note, 3, (some .int))
theorem si_X10_note : SiV m_X10_note 2 := ⟨⟨(wA 51 (by decide +kernel) rfl), (wA 1022 (by decide +kernel) rfl), ⟨by decide +kernel, by decide +kernel, by decide +kernel⟩, by decide⟩, (wA 1020 (by decide +kernel) rfl), (wA 1021 (by decide +kernel) rfl)⟩
abbrev m_X10_split : Ym := (yX10_split, cX10_split, 4, (some .int))
theorem si_X10_split : SiV m_X10_split 3 := ⟨⟨(wA 51 (by decide +kernel) rfl), (wA 1026 (by decide +kernel) rfl), ⟨by decide +kernel, by decide +kernel, by decide +kernel⟩, by decide⟩, (wA 1024 (by decide +kernel) rfl), (wA 1025 (by decide +kernel) rfl)⟩
abbrev m_X10_toRepay : Ym := (yX10_toRepay, cX10_toRepay, 4, (some .int))
theorem si_X10_toRepay : SiV m_X10_toRepay 1 := ⟨⟨(wA 51 (by decide +kernel) rfl), (wA 1030 (by decide +kernel) rfl), ⟨by decide +kernel, by decide +kernel, by decide +kernel⟩, by decide⟩, (wA 1028 (by decide +kernel) rfl), (wA 1029 (by decide +kernel) rfl)⟩
abbrev m_X10_runningWith : Ym := (yX10_runningWith, cX10_runningWith, 4, (some .int))
theorem si_X10_runningWith : SiV m_X10_runningWith 1 := ⟨⟨(wA 51 (by decide +kernel) rfl), (wA 1038 (by decide +kernel) rfl), ⟨by decide +kernel, by decide +kernel, by decide +kernel⟩, by decide⟩, (wA 1037 (by decide +kernel) rfl), (wA 36 (by decide +kernel) rfl)⟩
abbrev m_X10_servicer : Ym := (yX10_servicer, cX10_servicer, 3, (some .int))
theorem si_X10_servicer : SiV m_X10_servicer 2 := ⟨⟨(wA 51 (by decide +kernel) rfl), (wA 1034 (by decide +kernel) rfl), ⟨by decide +kernel, by decide +kernel, by decide +kernel⟩, by decide⟩, (wA 1032 (by decide +kernel) rfl), (wA 1033 (by decide +kernel) rfl)⟩
abbrev m_X10_inState : Ym := (yX10_inState, cX10_inState, 4, (some .int))
theorem si_X10_inState : SiV m_X10_inState 1 := ⟨⟨(wA 51 (by decide +kernel) rfl), (wA 1046 (by decide +kernel) rfl), ⟨by decide +kernel, by decide +kernel, by decide +kernel⟩, by decide⟩, (wA 1045 (by decide +kernel) rfl), (wA 37 (by decide +kernel) rfl)⟩
abbrev m_X10_sumOf : Ym := (yX10_sumOf, cX10_sumOf, 4, (some .int))
theorem si_X10_sumOf : SiV m_X10_sumOf 1 := ⟨⟨(wA 51 (by decide +kernel) rfl), (wA 1050 (by decide +kernel) rfl), ⟨by decide +kernel, by decide +kernel, by decide +kernel⟩, by decide⟩, (wA 1049 (by decide +kernel) rfl), (wA 38 (by decide +kernel) rfl)⟩
abbrev m_X10_losses : Ym := (yX10_losses, cX10_losses, 3, (some .int))
theorem si_X10_losses : SiV m_X10_losses 0 := ⟨⟨(wA 51 (by decide +kernel) rfl), (wA 1054 (by decide +kernel) rfl), ⟨by decide +kernel, by decide +kernel, by decide +kernel⟩, by decide⟩, (wA 1053 (by decide +kernel) rfl), (wA 39 (by decide +kernel) rfl)⟩
abbrev m_X10_count : Ym := (yX10_count, cX10_count, 2, (some .int))
theorem si_X10_count : SiV m_X10_count 1 := ⟨⟨(wA 51 (by decide +kernel) rfl), (wA 1042 (by decide +kernel) rfl), ⟨by decide +kernel, by decide +kernel, by decide +kernel⟩, by decide⟩, (wA 1040 (by decide +kernel) rfl), (wA 1041 (by decide +kernel) rfl)⟩
theorem lk_X1_29 : Cond.methodLink RX1 29 yX1_isAllowed ∈ wsA := (wA 653 (by decide +kernel) rfl)
theorem lk_X1_33 : Cond.methodLink RX1 33 yX1_take ∈ wsA := (wA 656 (by decide +kernel) rfl)
theorem lk_X2_22 : Cond.methodLink RX2 22 yX2_dropOldest ∈ wsA := (wA 401 (by decide +kernel) rfl)
theorem lk_X2_25 : Cond.methodLink RX2 25 yX5_copyFrom ∈ wsA := (wA 405 (by decide +kernel) rfl)
theorem lk_X4_45 : (RX4, 45, yX9_dividedUp, "PeerNotes") ∈ nsM := by decide +kernel
theorem lk_X4_49 : Cond.methodLink RX4 49 Lib.Math.min.name ∈ wsA := (wA 632 (by decide +kernel) rfl)
theorem lk_X4_54 : Cond.methodLink RX4 54 Lib.Math.max.name ∈ wsA := (wA 574 (by decide +kernel) rfl)
theorem lk_X4_57 : Cond.methodLink RX4 57 yX4_end ∈ wsA := (wA 577 (by decide +kernel) rfl)
theorem lk_X5_58 : Cond.methodLink RX5 58 yX3_copyFrom ∈ wsA := (wA 409 (by decide +kernel) rfl)
theorem lk_X5_62 : Cond.methodLink RX5 62 yX4_copyFrom ∈ wsA := (wA 413 (by decide +kernel) rfl)
theorem lk_X5_65 : Cond.methodLink RX5 65 yX6_copyFrom ∈ wsA := (wA 417 (by decide +kernel) rfl)
theorem lk_X5_68 : Cond.methodLink RX5 68 yX5_hasLoan ∈ wsA := (wA 459 (by decide +kernel) rfl)
theorem lk_X5_75 : Cond.methodLink RX5 75 yX5_hasInvestor ∈ wsA := (wA 458 (by decide +kernel) rfl)
theorem lk_X5_81 : Cond.constant RX5 81 (99999) ∈ wsA := (wA 463 (by decide +kernel) rfl)
theorem lk_X5_82 : Cond.methodLink RX5 82 yX5_missing ∈ wsA := (wA 464 (by decide +kernel) rfl)
theorem lk_X5_86 : Cond.methodLink RX5 86 yX5_fundingError ∈ wsA := (wA 476 (by decide +kernel) rfl)
theorem lk_X5_90 : Cond.methodLink RX5 90 yX6_open ∈ wsA := (wA 477 (by decide +kernel) rfl)
theorem lk_X5_94 : Cond.methodLink RX5 94 yX5_give ∈ wsA := (wA 481 (by decide +kernel) rfl)
theorem lk_X5_98 : Cond.methodLink RX5 98 yX4_start ∈ wsA := (wA 485 (by decide +kernel) rfl)
theorem lk_X5_104 : (RX5, 104, yX9_isServicer, "PeerNotes") ∈ nsM := by decide +kernel
theorem lk_X5_121 : Cond.methodLink RX5 121 yX4_takePayment ∈ wsA := (wA 570 (by decide +kernel) rfl)
theorem lk_X5_137 : Cond.methodLink RX5 137 yX5_runs ∈ wsA := (wA 627 (by decide +kernel) rfl)
theorem lk_X5_140 : Cond.methodLink RX5 140 yX4_passMonth ∈ wsA := (wA 628 (by decide +kernel) rfl)
theorem lk_X5_146 : Cond.methodLink RX5 146 yX5_principals ∈ wsA := (wA 468 (by decide +kernel) rfl)
theorem lk_X7_9 : Cond.methodLink RX7 9 yX5_runs ∈ wsA := (wA 538 (by decide +kernel) rfl)
theorem lk_X7_25 : (RX7, 25, yX9_feeOf, "PeerNotes") ∈ nsM := by decide +kernel
theorem lk_X7_40 : Cond.methodLink RX7 40 Lib.Math.min.name ∈ wsA := (wA 549 (by decide +kernel) rfl)
theorem lk_X7_56 : Cond.methodLink RX7 56 yX5_principals ∈ wsA := (wA 552 (by decide +kernel) rfl)
theorem lk_X8_21 : Cond.methodLink RX8 21 yX8_clear ∈ wsA := (wA 503 (by decide +kernel) rfl)
theorem lk_X8_24 : Cond.methodLink RX8 24 yX8_weighPrincipals ∈ wsA := (wA 507 (by decide +kernel) rfl)
theorem lk_X8_36 : Cond.methodLink RX8 36 yX8_shareOut ∈ wsA := (wA 557 (by decide +kernel) rfl)
theorem lk_X8_46 : Cond.methodLink RX8 46 yX8_shareByClass ∈ wsA := (wA 561 (by decide +kernel) rfl)
theorem lk_X8_50 : Cond.methodLink RX8 50 yX5_principals ∈ wsA := (wA 595 (by decide +kernel) rfl)
theorem lk_X8_56 : Cond.methodLink RX8 56 Lib.Math.min.name ∈ wsA := (wA 596 (by decide +kernel) rfl)
theorem lk_X8_64 : Cond.methodLink RX8 64 Lib.Math.max.name ∈ wsA := (wA 597 (by decide +kernel) rfl)
theorem lk_X8_91 : Cond.constantLong RX8 91 (2147483647) ∈ wsA := (wA 515 (by decide +kernel) rfl)
theorem lk_X8_96 : Cond.methodLink RX8 96 yX5_hasInvestor ∈ wsA := (wA 520 (by decide +kernel) rfl)
theorem lk_X8_101 : Cond.methodLink RX8 101 yX5_give ∈ wsA := (wA 521 (by decide +kernel) rfl)
theorem lk_X9_58 : Cond.methodLink RX9 58 yX2_record ∈ wsA := (wA 397 (by decide +kernel) rfl)
theorem lk_X9_66 : Cond.methodLink RX9 66 yX3_open ∈ wsA := (wA 421 (by decide +kernel) rfl)
theorem lk_X9_72 : Cond.methodLink RX9 72 yX5_hasInvestor ∈ wsA := (wA 429 (by decide +kernel) rfl)
theorem lk_X9_76 : Cond.constant RX9 76 (2147483647) ∈ wsA := (wA 433 (by decide +kernel) rfl)
theorem lk_X9_83 : Cond.constant RX9 83 (99999) ∈ wsA := (wA 442 (by decide +kernel) rfl)
theorem lk_X9_84 : Cond.methodLink RX9 84 yX9_isLoanMonths ∈ wsA := (wA 443 (by decide +kernel) rfl)
theorem lk_X9_94 : Cond.methodLink RX9 94 yX4_open ∈ wsA := (wA 446 (by decide +kernel) rfl)
theorem lk_X9_99 : Cond.methodLink RX9 99 yX5_fundingError ∈ wsA := (wA 454 (by decide +kernel) rfl)
theorem lk_X9_103 : Cond.methodLink RX9 103 yX5_addNote ∈ wsA := (wA 472 (by decide +kernel) rfl)
theorem lk_X9_107 : Cond.methodLink RX9 107 yX5_missing ∈ wsA := (wA 492 (by decide +kernel) rfl)
theorem lk_X9_111 : Cond.methodLink RX9 111 yX5_hasLoan ∈ wsA := (wA 497 (by decide +kernel) rfl)
theorem lk_X9_117 : Cond.methodLink RX9 117 yX5_principals ∈ wsA := (wA 498 (by decide +kernel) rfl)
theorem lk_X9_121 : Cond.methodLink RX9 121 yX8_ofGivingUp ∈ wsA := (wA 499 (by decide +kernel) rfl)
theorem lk_X9_125 : Cond.methodLink RX9 125 yX8_fits ∈ wsA := (wA 511 (by decide +kernel) rfl)
theorem lk_X9_129 : Cond.methodLink RX9 129 yX8_carryOut ∈ wsA := (wA 516 (by decide +kernel) rfl)
theorem lk_X9_132 : Cond.methodLink RX9 132 yX4_end ∈ wsA := (wA 522 (by decide +kernel) rfl)
theorem lk_X9_135 : Cond.methodLink RX9 135 yX9_isPayment ∈ wsA := (wA 530 (by decide +kernel) rfl)
theorem lk_X9_138 : Cond.methodLink RX9 138 yX7_areOf ∈ wsA := (wA 534 (by decide +kernel) rfl)
theorem lk_X9_142 : Cond.methodLink RX9 142 yX8_ofPayment ∈ wsA := (wA 553 (by decide +kernel) rfl)
theorem lk_X9_146 : Cond.methodLink RX9 146 yX5_takePayment ∈ wsA := (wA 565 (by decide +kernel) rfl)
theorem lk_X9_162 : Cond.methodLink RX9 162 yX9_dividedUp ∈ wsA := (wA 582 (by decide +kernel) rfl)
theorem lk_X9_168 : Cond.methodLink RX9 168 yX9_isPrice ∈ wsA := (wA 587 (by decide +kernel) rfl)
theorem lk_X9_171 : Cond.methodLink RX9 171 yX5_runs ∈ wsA := (wA 590 (by decide +kernel) rfl)
theorem lk_X9_174 : Cond.methodLink RX9 174 yX8_ofSale ∈ wsA := (wA 591 (by decide +kernel) rfl)
theorem lk_X9_181 : Cond.methodLink RX9 181 yX5_writeOff ∈ wsA := (wA 598 (by decide +kernel) rfl)
theorem lk_X9_184 : Cond.methodLink RX9 184 yX9_isServicer ∈ wsA := (wA 545 (by decide +kernel) rfl)
theorem lk_X9_193 : Cond.methodLink RX9 193 yX5_hasNote ∈ wsA := (wA 610 (by decide +kernel) rfl)
theorem lk_X9_208 : Cond.methodLink RX9 208 yX5_cashOf ∈ wsA := (wA 614 (by decide +kernel) rfl)
theorem lk_X9_211 : Cond.methodLink RX9 211 yX5_give ∈ wsA := (wA 618 (by decide +kernel) rfl)
theorem lk_X9_219 : Cond.methodLink RX9 219 yX5_passMonth ∈ wsA := (wA 623 (by decide +kernel) rfl)
theorem lk_X9_222 : Cond.methodLink RX9 222 yX5_loansInArrears ∈ wsA := (wA 633 (by decide +kernel) rfl)
theorem lk_X9_233 : Cond.methodLink RX9 233 yX1_read ∈ wsA := (wA 649 (by decide +kernel) rfl)
theorem lk_X9_236 : Cond.methodLink RX9 236 yX5_copyFrom ∈ wsA := (wA 659 (by decide +kernel) rfl)
theorem lk_X9_259 : Cond.methodLink RX9 259 yX2_takeLatest ∈ wsA := (wA 664 (by decide +kernel) rfl)
theorem lk_X9_265 : Cond.methodLink RX9 265 yX5_principalsOf ∈ wsA := (wA 680 (by decide +kernel) rfl)
theorem lk_X9_268 : Cond.methodLink RX9 268 yX5_liveNotesOf ∈ wsA := (wA 684 (by decide +kernel) rfl)
theorem lk_X9_271 : Cond.methodLink RX9 271 yX5_loansOf ∈ wsA := (wA 688 (by decide +kernel) rfl)
theorem lk_X9_283 : Cond.methodLink RX9 283 yX5_notesFor ∈ wsA := (wA 696 (by decide +kernel) rfl)
theorem lk_X9_308 : Cond.methodLink RX9 308 yX9_feeOf ∈ wsA := (wA 712 (by decide +kernel) rfl)
theorem lk_X9_311 : Cond.constantLong RX9 311 (1000) ∈ wsA := (wA 713 (by decide +kernel) rfl)
theorem lk_X9_313 : Cond.fieldLink RX9 313 "PeerNotes" "FEES" "[I" ∈ wsA := (wA 548 (by decide +kernel) rfl)
theorem lk_X9_320 : Cond.methodLink RX9 320 yX5_loansServedBy ∈ wsA := (wA 718 (by decide +kernel) rfl)
theorem lk_X9_323 : Cond.methodLink RX9 323 yX5_loansInState ∈ wsA := (wA 726 (by decide +kernel) rfl)
theorem lk_X9_326 : Cond.methodLink RX9 326 yX5_allPrincipals ∈ wsA := (wA 730 (by decide +kernel) rfl)
theorem lk_X9_329 : Cond.methodLink RX9 329 yX5_allInterestDue ∈ wsA := (wA 734 (by decide +kernel) rfl)
theorem lk_X9_332 : Cond.methodLink RX9 332 yX5_allLosses ∈ wsA := (wA 738 (by decide +kernel) rfl)
theorem lk_X9_335 : Cond.methodLink RX9 335 yX5_ordersOfSwitches ∈ wsA := (wA 742 (by decide +kernel) rfl)
theorem lk_X9_338 : Cond.constant RX9 338 (199999) ∈ wsA := (wA 533 (by decide +kernel) rfl)
theorem lk_X10_38 : Cond.methodLink RX10 38 yX10_in ∈ wsA := (wA 822 (by decide +kernel) rfl)
theorem lk_X10_42 : Cond.methodLink RX10 42 yX10_of ∈ wsA := (wA 855 (by decide +kernel) rfl)
theorem lk_X10_50 : Cond.methodLink RX10 50 yX10_putBack ∈ wsA := (wA 810 (by decide +kernel) rfl)
theorem lk_X10_56 : Cond.constantLong RX10 56 (2147483647) ∈ wsA := (wA 829 (by decide +kernel) rfl)
theorem lk_X10_58 : Cond.methodLink RX10 58 yX10_aside ∈ wsA := (wA 802 (by decide +kernel) rfl)
theorem lk_X10_61 : Cond.methodLink RX10 61 yX10_acted ∈ wsA := (wA 806 (by decide +kernel) rfl)
theorem lk_X10_65 : Cond.methodLink RX10 65 yX10_isInvestor ∈ wsA := (wA 818 (by decide +kernel) rfl)
theorem lk_X10_69 : Cond.methodLink RX10 69 yX10_payOut ∈ wsA := (wA 825 (by decide +kernel) rfl)
theorem lk_X10_73 : Cond.constant RX10 73 (99999) ∈ wsA := (wA 838 (by decide +kernel) rfl)
theorem lk_X10_74 : Cond.methodLink RX10 74 yX10_be ∈ wsA := (wA 839 (by decide +kernel) rfl)
theorem lk_X10_78 : Cond.methodLink RX10 78 yX10_ofNote ∈ wsA := (wA 867 (by decide +kernel) rfl)
theorem lk_X10_81 : Cond.methodLink RX10 81 yX10_principals ∈ wsA := (wA 863 (by decide +kernel) rfl)
theorem lk_X10_84 : Cond.methodLink RX10 84 yX10_isLoan ∈ wsA := (wA 851 (by decide +kernel) rfl)
theorem lk_X10_87 : Cond.methodLink RX10 87 yX10_missing ∈ wsA := (wA 859 (by decide +kernel) rfl)
theorem lk_X10_90 : Cond.methodLink RX10 90 yX10_upwards ∈ wsA := (wA 871 (by decide +kernel) rfl)
theorem lk_X10_93 : Cond.methodLink RX10 93 yX10_funds ∈ wsA := (wA 847 (by decide +kernel) rfl)
theorem lk_X10_97 : Cond.methodLink RX10 97 yX10_more ∈ wsA := (wA 878 (by decide +kernel) rfl)
theorem lk_X10_100 : Cond.methodLink RX10 100 yX10_ends ∈ wsA := (wA 882 (by decide +kernel) rfl)
theorem lk_X10_103 : Cond.methodLink RX10 103 yX10_weigh ∈ wsA := (wA 916 (by decide +kernel) rfl)
theorem lk_X10_106 : Cond.methodLink RX10 106 yX10_share ∈ wsA := (wA 920 (by decide +kernel) rfl)
theorem lk_X10_109 : Cond.methodLink RX10 109 yX10_feeOf ∈ wsA := (wA 903 (by decide +kernel) rfl)
theorem lk_X10_112 : Cond.constantLong RX10 112 (1000) ∈ wsA := (wA 906 (by decide +kernel) rfl)
theorem lk_X10_114 : Cond.methodLink RX10 114 yX10_runs ∈ wsA := (wA 895 (by decide +kernel) rfl)
theorem lk_X10_117 : Cond.methodLink RX10 117 yX10_feeFor ∈ wsA := (wA 899 (by decide +kernel) rfl)
theorem lk_X10_120 : Cond.constantLong RX10 120 (100) ∈ wsA := (wA 911 (by decide +kernel) rfl)
theorem lk_X10_122 : Cond.constant RX10 122 (199999) ∈ wsA := (wA 890 (by decide +kernel) rfl)
theorem lk_X10_123 : Cond.methodLink RX10 123 yX10_canPay ∈ wsA := (wA 891 (by decide +kernel) rfl)
theorem lk_X10_127 : Cond.methodLink RX10 127 yX10_splitBy ∈ wsA := (wA 907 (by decide +kernel) rfl)
theorem lk_X10_131 : Cond.methodLink RX10 131 yX10_payInterest ∈ wsA := (wA 912 (by decide +kernel) rfl)
theorem lk_X10_134 : Cond.methodLink RX10 134 yX10_payPrincipal ∈ wsA := (wA 924 (by decide +kernel) rfl)
theorem lk_X10_137 : Cond.methodLink RX10 137 yX10_isServicer ∈ wsA := (wA 940 (by decide +kernel) rfl)
theorem lk_X10_140 : Cond.methodLink RX10 140 yX10_isNote ∈ wsA := (wA 947 (by decide +kernel) rfl)
theorem lk_X10_143 : Cond.methodLink RX10 143 yX10_month ∈ wsA := (wA 955 (by decide +kernel) rfl)
theorem lk_X10_147 : Cond.methodLink RX10 147 yX10_inArrears ∈ wsA := (wA 959 (by decide +kernel) rfl)
theorem lk_X10_160 : Cond.methodLink RX10 160 yX10_look ∈ wsA := (wA 983 (by decide +kernel) rfl)
theorem lk_X10_163 : Cond.methodLink RX10 163 yX10_must ∈ wsA := (wA 987 (by decide +kernel) rfl)
theorem lk_X10_167 : Cond.methodLink RX10 167 yX10_digit ∈ wsA := (wA 979 (by decide +kernel) rfl)
theorem lk_X10_170 : Cond.methodLink RX10 170 yX10_tell ∈ wsA := (wA 975 (by decide +kernel) rfl)
theorem lk_X10_176 : Cond.methodLink RX10 176 yX10_held ∈ wsA := (wA 1007 (by decide +kernel) rfl)
theorem lk_X10_179 : Cond.methodLink RX10 179 yX10_notesOf ∈ wsA := (wA 1015 (by decide +kernel) rfl)
theorem lk_X10_182 : Cond.methodLink RX10 182 yX10_runningWith ∈ wsA := (wA 1035 (by decide +kernel) rfl)
theorem lk_X10_185 : Cond.methodLink RX10 185 yX10_inState ∈ wsA := (wA 1043 (by decide +kernel) rfl)
theorem lk_X10_188 : Cond.methodLink RX10 188 yX10_sumOf ∈ wsA := (wA 1047 (by decide +kernel) rfl)
theorem lk_X10_191 : Cond.methodLink RX10 191 yX10_losses ∈ wsA := (wA 1051 (by decide +kernel) rfl)
theorem lk_L_13 : Cond.methodLink RL 13 yX9_addInvestor ∈ wsA := (wA 393 (by decide +kernel) rfl)
theorem lk_L_17 : Cond.methodLink RL 17 yX10_addInvestor ∈ wsA := (wA 798 (by decide +kernel) rfl)
theorem lk_L_18 : Cond.methodLink RL 18 yX9_deposit ∈ wsA := (wA 425 (by decide +kernel) rfl)
theorem lk_L_22 : Cond.methodLink RL 22 yX10_deposit ∈ wsA := (wA 814 (by decide +kernel) rfl)
theorem lk_L_23 : Cond.methodLink RL 23 yX9_setPoolShare ∈ wsA := (wA 434 (by decide +kernel) rfl)
theorem lk_L_26 : Cond.methodLink RL 26 yX10_setPoolShare ∈ wsA := (wA 830 (by decide +kernel) rfl)
theorem lk_L_27 : Cond.methodLink RL 27 yX9_openLoan ∈ wsA := (wA 438 (by decide +kernel) rfl)
theorem lk_L_31 : Cond.methodLink RL 31 yX10_openLoan ∈ wsA := (wA 834 (by decide +kernel) rfl)
theorem lk_L_32 : Cond.methodLink RL 32 yX9_fund ∈ wsA := (wA 450 (by decide +kernel) rfl)
theorem lk_L_36 : Cond.methodLink RL 36 yX10_fund ∈ wsA := (wA 843 (by decide +kernel) rfl)
theorem lk_L_37 : Cond.methodLink RL 37 yX9_giveUp ∈ wsA := (wA 493 (by decide +kernel) rfl)
theorem lk_L_40 : Cond.methodLink RL 40 yX10_giveUp ∈ wsA := (wA 874 (by decide +kernel) rfl)
theorem lk_L_41 : Cond.methodLink RL 41 yX9_pay ∈ wsA := (wA 526 (by decide +kernel) rfl)
theorem lk_L_44 : Cond.methodLink RL 44 yX10_pay ∈ wsA := (wA 886 (by decide +kernel) rfl)
theorem lk_L_45 : Cond.methodLink RL 45 yX9_cure ∈ wsA := (wA 578 (by decide +kernel) rfl)
theorem lk_L_48 : Cond.methodLink RL 48 yX10_cure ∈ wsA := (wA 928 (by decide +kernel) rfl)
theorem lk_L_49 : Cond.methodLink RL 49 yX9_sell ∈ wsA := (wA 583 (by decide +kernel) rfl)
theorem lk_L_52 : Cond.methodLink RL 52 yX10_sell ∈ wsA := (wA 932 (by decide +kernel) rfl)
theorem lk_L_53 : Cond.methodLink RL 53 yX9_switchServicer ∈ wsA := (wA 602 (by decide +kernel) rfl)
theorem lk_L_56 : Cond.methodLink RL 56 yX10_switchServicer ∈ wsA := (wA 936 (by decide +kernel) rfl)
theorem lk_L_57 : Cond.methodLink RL 57 yX9_sellNote ∈ wsA := (wA 606 (by decide +kernel) rfl)
theorem lk_L_60 : Cond.methodLink RL 60 yX10_sellNote ∈ wsA := (wA 943 (by decide +kernel) rfl)
theorem lk_L_61 : Cond.methodLink RL 61 yX9_pass ∈ wsA := (wA 619 (by decide +kernel) rfl)
theorem lk_L_64 : Cond.methodLink RL 64 yX10_pass ∈ wsA := (wA 951 (by decide +kernel) rfl)
theorem lk_L_65 : Cond.methodLink RL 65 yX9_type ∈ wsA := (wA 637 (by decide +kernel) rfl)
theorem lk_L_69 : Cond.methodLink RL 69 yX10_type ∈ wsA := (wA 963 (by decide +kernel) rfl)
theorem lk_L_70 : Cond.methodLink RL 70 yX9_clearText ∈ wsA := (wA 641 (by decide +kernel) rfl)
theorem lk_L_74 : Cond.methodLink RL 74 yX10_clearText ∈ wsA := (wA 967 (by decide +kernel) rfl)
theorem lk_L_75 : Cond.methodLink RL 75 yX9_readFundings ∈ wsA := (wA 645 (by decide +kernel) rfl)
theorem lk_L_78 : Cond.methodLink RL 78 yX10_readFundings ∈ wsA := (wA 971 (by decide +kernel) rfl)
theorem lk_L_79 : Cond.methodLink RL 79 yX9_undo ∈ wsA := (wA 660 (by decide +kernel) rfl)
theorem lk_L_82 : Cond.methodLink RL 82 yX10_undo ∈ wsA := (wA 991 (by decide +kernel) rfl)
theorem lk_L_83 : Cond.methodLink RL 83 yX9_keep ∈ wsA := (wA 668 (by decide +kernel) rfl)
theorem lk_L_86 : Cond.methodLink RL 86 yX10_keep ∈ wsA := (wA 995 (by decide +kernel) rfl)
theorem lk_L_87 : Cond.methodLink RL 87 yX9_restore ∈ wsA := (wA 672 (by decide +kernel) rfl)
theorem lk_L_90 : Cond.methodLink RL 90 yX10_restore ∈ wsA := (wA 999 (by decide +kernel) rfl)
theorem lk_L_91 : Cond.methodLink RL 91 yX9_investor ∈ wsA := (wA 676 (by decide +kernel) rfl)
theorem lk_L_94 : Cond.methodLink RL 94 yX10_investor ∈ wsA := (wA 1003 (by decide +kernel) rfl)
theorem lk_L_95 : Cond.methodLink RL 95 yX9_loan ∈ wsA := (wA 692 (by decide +kernel) rfl)
theorem lk_L_98 : Cond.methodLink RL 98 yX10_loan ∈ wsA := (wA 1011 (by decide +kernel) rfl)
theorem lk_L_99 : Cond.methodLink RL 99 yX9_note ∈ wsA := (wA 700 (by decide +kernel) rfl)
theorem lk_L_102 : Cond.methodLink RL 102 yX10_note ∈ wsA := (wA 1019 (by decide +kernel) rfl)
theorem lk_L_103 : Cond.methodLink RL 103 yX9_split ∈ wsA := (wA 704 (by decide +kernel) rfl)
theorem lk_L_106 : Cond.methodLink RL 106 yX10_split ∈ wsA := (wA 1023 (by decide +kernel) rfl)
theorem lk_L_107 : Cond.methodLink RL 107 yX9_toRepay ∈ wsA := (wA 708 (by decide +kernel) rfl)
theorem lk_L_110 : Cond.methodLink RL 110 yX10_toRepay ∈ wsA := (wA 1027 (by decide +kernel) rfl)
theorem lk_L_111 : Cond.methodLink RL 111 yX9_servicer ∈ wsA := (wA 714 (by decide +kernel) rfl)
theorem lk_L_114 : Cond.methodLink RL 114 yX10_servicer ∈ wsA := (wA 1031 (by decide +kernel) rfl)
theorem lk_L_115 : Cond.methodLink RL 115 yX9_count ∈ wsA := (wA 722 (by decide +kernel) rfl)
theorem lk_L_118 : Cond.methodLink RL 118 yX10_count ∈ wsA := (wA 1039 (by decide +kernel) rfl)
theorem mm_min1 : Cond.static Lib.Math.min.name ∈ wsA := (wA 550 (by decide +kernel) rfl)
theorem mm_min3 : Cond.code Lib.Math.min.name Lib.Math.min.code 2 (some .int) ∈ wsA := (wA 551 (by decide +kernel) rfl)
theorem mm_max1 : Cond.static Lib.Math.max.name ∈ wsA := (wA 575 (by decide +kernel) rfl)
theorem mm_max3 : Cond.code Lib.Math.max.name Lib.Math.max.code 2 (some .int) ∈ wsA := (wA 576 (by decide +kernel) rfl)
theorem mm_2 : Cond.initialized "java/lang/Math" ∈ wsA := (wA 52 (by decide +kernel) rfl)
end
section
theorem v_tcase {R : Type} {p : Prop} [Decidable p] {A B : Option R} {res : R} {T : Prop} (h : (if p then A else B) = some res) (ht : p → A = some res → T) (hf : ¬ p → B = some res → T) : T := by
  by_cases hp : p
  · rw [if_pos hp] at h
    exact ht hp h
  · rw [if_neg hp] at h
    exact hf hp h
/-- a store gets a name -/
def lt {α : Type} (x : Sto) (k : Sto → Option α) : Option α := k x
theorem v_lt {X : Cx} {G : Gm} {mc ms : Nat} {Q : State → Prop} {pc : Nat} {lc : List (Option Value)} {st : List Value} {R : Type} {x : Sto} {k : Sto → Option R} {res : R} (h : lt x k = some res) (kk : ∀ s : Sto, k s = some res → V X G mc ms Q s pc lc st) : V X G mc ms Q x pc lc st := kk x h
end
section
/-! THE CONSTRUCTORS: the judgement Vb: the cells from the address b on are the row M -/
def cw (b : Nat) (M : List va_E) : va_W := M.mapIdx fun t e => (b + t, e)
theorem cw_len {b : Nat} {M : List va_E} : (cw b M).length = M.length := List.length_mapIdx
theorem cw_at {b t : Nat} {M : List va_E} : (cw b M)[t]? = (M[t]?).map fun e => (b + t, e) := List.getElem?_mapIdx
theorem cw_get {b t : Nat} {M : List va_E} {e : va_E} (h : M[t]? = some e) : (cw b M)[t]? = some (b + t, e) := by
  rw [cw_at, h]
  rfl
theorem cw_inv {b t : Nat} {M : List va_E} {q : Nat × va_E} (h : (cw b M)[t]? = some q) : ∃ e, M[t]? = some e ∧ q = (b + t, e) := by
  rw [cw_at] at h
  cases hM : M[t]? with
  | none => rw [hM] at h; cases h
  | some e => rw [hM] at h; exact ⟨e, rfl, (Option.some.inj h).symm⟩
theorem cw_D {b : Nat} {M : List va_E} : va_D (fun q => b ≤ q) (cw b M) := by
  refine ⟨fun i j p q hi hj e => ?_, fun k q hk => ?_⟩
  · obtain ⟨_, -, rfl⟩ := cw_inv hi
    obtain ⟨_, -, rfl⟩ := cw_inv hj
    exact Nat.add_left_cancel e
  · obtain ⟨_, -, rfl⟩ := cw_inv hk
    exact Nat.le_add_right _ _
theorem cw_set {b t : Nat} {M : List va_E} {e : va_E} : (cw b M).set t (b + t, e) = cw b (M.set t e) := by
  refine List.ext_getElem? fun k => ?_
  rw [List.getElem?_set, cw_at, cw_at, List.getElem?_set, cw_len]
  by_cases h : t = k
  · subst h
    rw [if_pos rfl, if_pos rfl]
    by_cases h2 : t < M.length
    · rw [if_pos h2, if_pos h2]; rfl
    · rw [if_neg h2, if_neg h2]; rfl
  · rw [if_neg h, if_neg h]
theorem cw_push {b : Nat} {M : List va_E} {e : va_E} : cw b M ++ [(b + M.length, e)] = cw b (M ++ [e]) := by
  refine List.ext_getElem? fun k => ?_
  rw [cw_at]
  rcases Nat.lt_trichotomy k M.length with h | h | h
  · rw [List.getElem?_append_left (by rw [cw_len]; exact h), List.getElem?_append_left h, cw_at]
  · subst h
    rw [List.getElem?_append_right (by rw [cw_len]; exact Nat.le_refl _), List.getElem?_append_right (Nat.le_refl _), cw_len, Nat.sub_self]
    rfl
  · rw [List.getElem?_eq_none (by rw [List.length_append, cw_len]; exact h), List.getElem?_eq_none (by rw [List.length_append]; exact h)]
    rfl
def Rb (G : Gm) (b : Nat) (M : List va_E) (H : Heap) : Prop := va_P G.2.2.1 clz (cw b M) H
theorem Rb.at {G : Gm} {b t : Nat} {M : List va_E} {H : Heap} {e : va_E} (h : Rb G b M H) (ht : M[t]? = some e) : va_at G.2.2.1 clz (b + t, e) H := h t _ (cw_get ht)
theorem Rb.mk {G : Gm} {b : Nat} {M : List va_E} {H : Heap} (h : ∀ (t : Nat) (e : va_E), M[t]? = some e → va_at G.2.2.1 clz (b + t, e) H) : Rb G b M H := fun k q hk => by
  obtain ⟨e, he, rfl⟩ := cw_inv hk
  exact h k e he
theorem Rb.size {G : Gm} {b : Nat} {M : List va_E} {H : Heap} (h : Rb G b M H) (hb : b ≤ H.size) : b + M.length ≤ H.size := by
  rcases Nat.eq_zero_or_pos M.length with e | e
  · omega
  · have h1 : b + (M.length - 1) < H.size := (h.at (List.getElem?_eq_getElem (i := M.length - 1) (by omega))).lt
    omega
theorem Rb.app {G : Gm} {b : Nat} {M N : List va_E} {H : Heap} (h1 : Rb G b M H) (h2 : Rb G (b + M.length) N H) : Rb G b (M ++ N) H := Rb.mk fun t e he => by
  by_cases hl : t < M.length
  · rw [List.getElem?_append_left hl] at he
    exact h1.at he
  · rw [List.getElem?_append_right (by omega)] at he
    have := h2.at he
    rwa [show b + M.length + (t - M.length) = b + t by omega] at this
theorem Rb.left {G : Gm} {b : Nat} {M N : List va_E} {H : Heap} (h : Rb G b (M ++ N) H) : Rb G b M H := Rb.mk fun t e he => h.at (by rw [List.getElem?_append_left (List.getElem?_eq_some_iff.mp he).1]; exact he)
theorem Rb.right {G : Gm} {b : Nat} {M N : List va_E} {H : Heap} (h : Rb G b (M ++ N) H) : Rb G (b + M.length) N H := Rb.mk fun t e he => by
  have := h.at (t := M.length + t) (e := e) (by rw [List.getElem?_append_right (by omega), show M.length + t - M.length = t by omega]; exact he)
  rwa [show b + (M.length + t) = b + M.length + t by omega] at this
theorem Rb.kept {G : Gm} {b : Nat} {M : List va_E} {H H1 : Heap} (h : Rb G b M H) (hq : ∀ q, b ≤ q → q < b + M.length → H1[q]? = H[q]?) : Rb G b M H1 := Rb.mk fun t e he => (h.at he).kept (hq _ (Nat.le_add_right _ _) (Nat.add_lt_add_left (List.getElem?_eq_some_iff.mp he).1 _))
theorem newAt {D : va_G} {b q : Nat} {M : List va_E} {e : va_E} {H1 : Heap} (hP : va_P D clz (cw b M ++ [(q, e)]) H1) (hD : va_D (fun q => b ≤ q) (cw b M ++ [(q, e)])) (hu : H1.size ≤ b + M.length + 1) : q = b + M.length := by
  have hlast : (cw b M ++ [(q, e)])[M.length]? = some (q, e) := by
    rw [List.getElem?_append_right (by rw [cw_len]; exact Nat.le_refl _), cw_len, Nat.sub_self]
    rfl
  have h1 : q < H1.size := (hP _ _ hlast).lt
  have h2 : b ≤ q := hD.2 _ _ hlast
  rcases Nat.lt_or_ge q (b + M.length) with h | h
  · exfalso
    have ht : q - b < M.length := by omega
    have h3 : (cw b M ++ [(q, e)])[q - b]? = some (b + (q - b), M[q - b]) := by
      rw [List.getElem?_append_left (by rw [cw_len]; exact ht)]
      exact cw_get (List.getElem?_eq_getElem ht)
    have h4 := hD.1 _ _ _ _ h3 hlast (by show b + (q - b) = q; omega)
    omega
  · omega
/-! which arrays may be made -/
def OA (U : State) : Prop := va_AO RX0 U ∧ va_AO RX3 U ∧ va_AO RX4 U ∧ va_AO RX5 U ∧ va_AO RX6 U
theorem OA.moved {u U : State} (h : u.vm.Alike U.vm) (o : OA u) : OA U := ⟨o.1.moved h, o.2.1.moved h, o.2.2.1.moved h, o.2.2.2.1.moved h, o.2.2.2.2.moved h⟩
theorem raEq {U : State} {c1 c2 : ClassId} {ty : FieldType} (h1 : va_RA U c1 ty) (h2 : va_RA U c2 ty) : c1 = c2 := by
  cases ty with
  | object C =>
    obtain ⟨_, _, _, _, _, a⟩ := h1
    obtain ⟨_, _, _, _, _, b⟩ := h2
    exact Option.some.inj (a.symm.trans b)
  | _ => exact Option.some.inj (Eq.trans (Eq.symm h1) h2)
/-! contracts of constructors -/
def Wc (G : Gm) (b : Nat) (M : List va_E) (U : State) : Prop := (U.heap.size = b + M.length ∧ Rb G b M U.heap) ∧ G.1 ≤ b ∧ Wt G U ∧ Wf G U U.heap ∧ OA U
theorem Wc.blind {G : Gm} {b : Nat} {M : List va_E} {U : State} (g : JFrame) (mk : MethodId) (a : Array Value) (h : Wc G b M U) : Wc G b M (U.calling g mk a) :=
  ⟨h.1, h.2.1, ⟨va_K.moved (u := U) (U := U.calling g mk a) (Vm.Alike.refl U.vm) h.2.2.1.1, h.2.2.1.2.same rfl⟩, h.2.2.2.1.alike (U := U.calling g mk a) (Vm.Alike.refl U.vm), h.2.2.2.2.moved (u := U) (U := U.calling g mk a) (Vm.Alike.refl U.vm)⟩
theorem blindK {G : Gm} {b : Nat} {M : List va_E} {av : List Value} : FrameBlind (va_Pc av (Wc G b M)) := fun a U g mk q => ⟨q.1, Wc.blind g mk a q.2⟩
def rmk (d mc ms : Nat) : Room := { frames := d, cells := mc, slots := ms, locals := 29 * d }
def Qk (G : Gm) (b : Nat) (L : List va_E) : Array Value → State → Outcome → State → Prop := fun _ st oc t => (oc = .returned none ∧ Rb G b L t.heap) ∧ va_F (fun q => b ≤ q) st t
/-- the contract: a fresh object e0 at b, the heap's last cell, becomes F b, cells from b on; mc cells and ms slots are made -/
def Clk (G : Gm) (d mc ms : Nat) (y : Ym) (e0 : va_E) (F : Nat → List va_E) : Prop := ∀ (l : Launch) (b : Nat), Met l y.1 (wsY y) (rmk d mc ms) (va_Pc [.ref b] (Wc G b [e0])) (Qk G b (F b)) mc ms (fun q => b ≤ q)
def Vb (X : Cx) (G : Gm) (Q : State → Prop) (b : Nat) (M : List va_E) (c n pc : Nat) (lc : List (Option Value)) (st : List Value) : Prop :=
  ∀ (H : Heap) (locs : List Loc) (ls : Array Slot), Rb G b M H → va_S (fun q => b ≤ q) (cxS X).heap H locs → lcok ls lc → WX X H locs c n Q (F0 (cxM X) pc ls st)
def Gb (X : Cx) (G : Gm) (cc : ByteArray) (own : String) (nL d : Nat) (ret : Option FieldType) (mc ms b : Nat) : Prop := Gd X G cc own nL d ret mc ms ∧ OA (cxS X) ∧ G.1 ≤ b ∧ b ≤ (cxS X).heap.size
def QB (X : Cx) (G : Gm) (b : Nat) (L : List va_E) (mc ms : Nat) : State → Prop := MQ X.2.2.2.2.2.2.2.1 (Qk G b L) (cxA X) (cxS X) mc ms (fun q => b ≤ q)
theorem W_up (X : Cx) {H : Heap} {locs : List Loc} {c n : Nat} {Q : State → Prop} {g : JFrame} (kk : H.size ≤ (cxS X).heap.size + c → WX X H locs c n Q g) : WX X H locs c n Q g := fun T hT Y => kk (hT ▸ Y.heapSize) T hT Y
theorem Clk.mk {G : Gm} {d mc ms nL : Nat} {y : Ym} {e0 : va_E} {F : Nat → List va_E} {cc : ByteArray} {own : String} (e1 : y.2.1 = cc) (e2 : y.1.cls = own) (e3 : y.2.2.1 = nL) (e4 : y.2.2.2 = none) (hy : plainName y.1.cls = true) (hnm : y.1.name = "<init>") (hn : 1 ≤ nL)
    (h : ∀ (X : Cx) (b : Nat), Gb X G cc own nL d none mc ms b → (cxN X).name = "<init>" → (cxS X).heap.size = b + 1 → Vb X G (QB X G b (F b) mc ms) b [e0] 0 0 0 (ent [.ref b] nL) []) : Clk G d mc ms y e0 F := by
  subst e1; subst e2; subst e3
  intro l b
  refine Met.ofW (cc := y.2.1) (maxL := y.2.2.1) (ret := y.2.2.2) hy rfl ?_
  intro p e s m args below meth c s₁ B hml hv
  obtain ⟨rfl, ⟨hsz, hR⟩, hb, hT, hF, hO⟩ := hv
  have hts := atoms_spec (ws := wsY y) B.pre
  have hown : s.vm.findClass y.1.cls = some m.cls := findClass_of_methodNamed B.named
  have hin : meth.name = "<init>" := (name_of_methodNamed B.named B.method).1.trans hnm
  have h1 := h (p, l, e, (headSpec (wsY y) (rmk d mc ms)).room, s, m, ([.ref b] : List Value).toArray, below, meth, c) b ⟨⟨B.exec, B.bytes, hml, hown, fun w hw => hts w (List.mem_cons_of_mem _ hw), hT, hF, Nat.le_refl _, Nat.le_refl _, Nat.le_refl _, Nat.le_refl _, e4 ▸ B.returns, B.notSynchronized⟩, hO, hb, by show b ≤ s.heap.size; rw [hsz]; exact Nat.le_add_right _ _⟩ hin hsz
  rw [lg_entry_eq]
  exact h1 s.heap [] _ hR va_S.rf (lcok_ent (by simp [Value.category]) hn)
section VB
variable {X : Cx} {G : Gm} {mc ms : Nat} {Q : State → Prop} {b c n pc : Nat} {M M' : List va_E} {lc : List (Option Value)} {st : List Value} {cc : ByteArray} {own : String} {nL d : Nat} {ret : Option FieldType}
theorem kb_iconst (C : Gb X G cc own nL d ret mc ms b) {i : Int} {v : Int32} (hd : decode cc pc = .ok (.iconst i, 1)) (hv : Int32.ofInt i = v) (kk : Vb X G Q b M c n (pc + 1) lc (.int v :: st)) : Vb X G Q b M c n pc lc st := fun H locs ls hR hS hl => lv_iconst C.1.1 C.1.2.1 hd hv (kk H locs ls hR hS hl)
theorem kb_bipush (C : Gb X G cc own nL d ret mc ms b) {i : Int} {v : Int32} (hd : decode cc pc = .ok (.bipush i, 2)) (hv : (Int8.ofInt i).toInt32 = v) (kk : Vb X G Q b M c n (pc + 2) lc (.int v :: st)) : Vb X G Q b M c n pc lc st := fun H locs ls hR hS hl => lv_bipush C.1.1 C.1.2.1 hd hv (kk H locs ls hR hS hl)
theorem kb_sipush (C : Gb X G cc own nL d ret mc ms b) {i : Int} {v : Int32} (hd : decode cc pc = .ok (.sipush i, 3)) (hv : (Int16.ofInt i).toInt32 = v) (kk : Vb X G Q b M c n (pc + 3) lc (.int v :: st)) : Vb X G Q b M c n pc lc st := fun H locs ls hR hS hl => lv_sipush C.1.1 C.1.2.1 hd hv (kk H locs ls hR hS hl)
theorem kb_aload_n (C : Gb X G cc own nL d ret mc ms b) {k : Fin 4} {i x : Nat} (hd : decode cc pc = .ok (.aload_n k, 1)) (hi : (k : Nat) = i) (hl : lc[i]? = some (some (.ref x))) (kk : Vb X G Q b M c n (pc + 1) lc (.ref x :: st)) : Vb X G Q b M c n pc lc st := fun H locs ls hR hS h => lv_aload_n C.1.1 C.1.2.1 hd hi (lcok_at h hl) (kk H locs ls hR hS h)
theorem kb_iload_n (C : Gb X G cc own nL d ret mc ms b) {k : Fin 4} {i : Nat} {x : Int32} (hd : decode cc pc = .ok (.iload_n k, 1)) (hi : (k : Nat) = i) (hl : lc[i]? = some (some (.int x))) (kk : Vb X G Q b M c n (pc + 1) lc (.int x :: st)) : Vb X G Q b M c n pc lc st := fun H locs ls hR hS h => lv_iload_n C.1.1 C.1.2.1 hd hi (lcok_at h hl) (kk H locs ls hR hS h)
theorem kb_istore_n (C : Gb X G cc own nL d ret mc ms b) {k : Fin 4} {i : Nat} {x : Int32} {lc1 : List (Option Value)} (hd : decode cc pc = .ok (.istore_n k, 1)) (hi : (k : Nat) = i) (hlt : i < lc.length) (e : stv lc i (.int x) = lc1) (kk : Vb X G Q b M c n (pc + 1) lc1 st) : Vb X G Q b M c n pc lc (.int x :: st) := fun H locs ls hR hS h => lv_istore_n C.1.1 C.1.2.1 hd hi h hlt rfl (fun ls1 h1 => kk H locs ls1 hR hS (e ▸ lcok_stv (ls := ls) hlt h1))
theorem kb_astore_n (C : Gb X G cc own nL d ret mc ms b) {k : Fin 4} {i x : Nat} {lc1 : List (Option Value)} (hd : decode cc pc = .ok (.astore_n k, 1)) (hi : (k : Nat) = i) (hlt : i < lc.length) (e : stv lc i (.ref x) = lc1) (kk : Vb X G Q b M c n (pc + 1) lc1 st) : Vb X G Q b M c n pc lc (.ref x :: st) := fun H locs ls hR hS h => lv_astore_n C.1.1 C.1.2.1 hd hi h hlt rfl (fun ls1 h1 => kk H locs ls1 hR hS (e ▸ lcok_stv (ls := ls) hlt h1))
theorem kb_iinc (C : Gb X G cc own nL d ret mc ms b) {i : Nat} {z : Int} {x v : Int32} {lc1 : List (Option Value)} (hd : decode cc pc = .ok (.iinc i z, 3)) (hl : lc[i]? = some (some (.int x))) (hv : x + Int32.ofInt z = v) (e : stv lc i (.int v) = lc1) (kk : Vb X G Q b M c n (pc + 3) lc1 st) : Vb X G Q b M c n pc lc st := by
  intro H locs ls hR hS h
  obtain ⟨k, hk⟩ := List.getElem?_of_mem ((asc_mem lc 0 i _).mpr ⟨Nat.zero_le _, hl⟩)
  have hlt : i < lc.length := (List.getElem?_eq_some_iff.mp hl).1
  exact lv_iinc C.1.1 C.1.2.1 hd h hk hv hlt rfl (fun ls1 h1 => kk H locs ls1 hR hS (e ▸ lcok_stv (ls := ls) hlt h1))
theorem kb_goto (C : Gb X G cc own nL d ret mc ms b) {off : Int} {tgt : Nat} (hd : decode cc pc = .ok (.goto off, 3)) (ht : (pc : Int) + off = (tgt : Int)) (kk : Vb X G Q b M c n tgt lc st) : Vb X G Q b M c n pc lc st := fun H locs ls hR hS hl => lv_goto C.1.1 C.1.2.1 hd ht (kk H locs ls hR hS hl)
theorem kb_dup (C : Gb X G cc own nL d ret mc ms b) {a : Nat} (hd : decode cc pc = .ok (.dup, 1)) (kk : Vb X G Q b M c n (pc + 1) lc (.ref a :: .ref a :: st)) : Vb X G Q b M c n pc lc (.ref a :: st) := fun H locs ls hR hS hl => lv_dup C.1.1 C.1.2.1 hd rfl (kk H locs ls hR hS hl)
theorem kb_icmp_ge (C : Gb X G cc own nL d ret mc ms b) {x y : Int32} {off : Int} {tgt : Nat} (hd : decode cc pc = .ok (.if_icmp .ge off, 3)) (ht : (pc : Int) + off = (tgt : Int)) (kt : y ≤ x → Vb X G Q b M c n tgt lc st) (kf : ¬ y ≤ x → Vb X G Q b M c n (pc + 3) lc st) : Vb X G Q b M c n pc lc (.int y :: .int x :: st) := fun H locs ls hR hS hl => lv_icmp_ge C.1.1 C.1.2.1 hd ht (fun p => kt p H locs ls hR hS hl) (fun p => kf p H locs ls hR hS hl)
theorem kb_obj (C : Gb X G cc own nL d ret mc ms b) {index a : Nat} (hlink : Cond.methodLink own index objectInit ∈ wsA) (hinst : Cond.instanceMethod objectInit ∈ wsA) (hcode : Cond.code objectInit ⟨#[0xb1]⟩ 1 none ∈ wsA) (hlc : lc.length = nL) (hd1 : 1 ≤ d) (hcat : (st.map fun v => v.category).sum ≤ 8) (hd : decode cc pc = .ok (.invokespecial index, 3)) (kk : Vb X G Q b M c n (pc + 3) lc st) : Vb X G Q b M c n pc lc (.ref a :: st) := fun H locs ls hR hS hl =>
  W.objInit C.1.1 C.1.2.1 C.1.2.2.2.1 (C.1.2.2.2.2.1 _ hlink) (C.1.2.2.2.2.1 _ hinst) (C.1.2.2.2.2.1 _ hcode) rfl (by rw [C.1.2.2.1]; exact hl.1.trans hlc) rfl hd (Nat.le_trans hd1 C.1.2.2.2.2.2.2.2.1)
    (by have h1 := lv_room (m := cxM X) (pc := pc) (ls := ls) (rest := .ref a :: st) hcat
        have h2 : 29 * d ≤ X.2.2.2.1.locals := C.1.2.2.2.2.2.2.2.2.1
        omega) (W.eq (g2 := F0 (cxM X) (pc + 3) ls st) rfl (kk H locs ls hR hS hl))
theorem kb_new (C : Gb X G cc own nL d ret mc ms b) (κ : Nat) {N index : Nat} {CC : String} {T : u_T} {fs : List Value} (ty0 : Nat → FieldType) (t : Nat) (hc : clz[κ]? = some (CC, T, N)) (hin : ∀ w ∈ u_ws CC T N, w ∈ wsA) (hty : ∀ k, k < N → parseFieldDescriptor (T k).2.2.1 = some (ty0 k)) (hcl : Cond.classLink own index CC ∈ wsA) (hinst : Cond.instantiable CC N ∈ wsA) (hini : Cond.initialized CC ∈ wsA) (hfs : ∀ j, j < N → defaultValue (ty0 j) = vp_V fs j) (ht : M.length = t) (hz : (cxS X).heap.size + c = b + t) (h1 : c + 1 ≤ mc) (h2 : n + N ≤ ms) (hd : decode cc pc = .ok (.new index, 3)) (hM : M ++ [.inr (κ, fs)] = M') (kk : Vb X G Q b M' (c + 1) (n + N) (pc + 3) lc (.ref (b + t) :: st)) : Vb X G Q b M c n pc lc st := by
  intro H locs ls hR hS hl
  subst ht
  refine va_new (D := G.2.2.1) (ci := κ) (cl := clz) C.1.1 C.1.2.1 C.1.2.2.2.2.1 hin ty0 hty C.1.2.2.2.1 (C.1.2.2.2.2.1 _ hcl) (C.1.2.2.2.2.1 _ hinst) (C.1.2.2.2.2.1 _ hini) C.1.2.2.2.2.2.1.1 hR cw_D hS (fun q h => Nat.le_trans C.2.2.2 h) hc hfs (Nat.le_trans h1 C.1.2.2.2.2.2.2.2.2.2.1) (Nat.le_trans h2 C.1.2.2.2.2.2.2.2.2.2.2.1) hd fun q H1 hP hD hS1 => W_up X fun hu => ?_
  have e : q = b + M.length := newAt hP hD (by omega)
  subst e
  rw [cw_push, hM] at hP
  exact kk H1 locs ls hP hS1 hl
theorem kb_newa (C : Gb X G cc own nL d ret mc ms b) (i N t : Nat) {atype : ArrayType} {ty : FieldType} (hty : newarray.typeOf atype = ty) (harr : Cond.arrayClass (newarray.typeOf atype) ∈ wsA) (hi : (tysG G)[i]? = some (G.2.2.2 i, ty)) (hdef : defaultValue ty = .int 0) (hN : N < 2 ^ 31) (hbytes : N * componentBytes ty ≤ 536870912) (ht : M.length = t) (hz : (cxS X).heap.size + c = b + t) (h1 : c + 1 ≤ mc) (h2 : n + N ≤ ms) (hd : decode cc pc = .ok (.newarray atype, 2)) (hM : M ++ [.inl (G.2.2.2 i, N, .inl fun _ => 0)] = M') (kk : Vb X G Q b M' (c + 1) (n + N) (pc + 2) lc (.ref (b + t) :: st)) : Vb X G Q b M c n pc lc (.int (nI N) :: st) := by
  intro H locs ls hR hS hl
  subst ht
  refine va_newa (D := G.2.2.1) (cl := clz) (tys := tysG G) C.1.1 C.1.2.1 (C.1.2.2.2.2.1 _ harr) hty C.1.2.2.2.2.2.1.1 hR cw_D hS (fun q h => Nat.le_trans C.2.2.2 h) (N' := N) (a0 := (N, .inl fun _ => 0)) (fun cA => by rw [vp_cell_i, hdef]) (nI_pos hN) (nI_clamp hN) hbytes (Nat.le_trans h1 C.1.2.2.2.2.2.2.2.2.2.1) (Nat.le_trans h2 C.1.2.2.2.2.2.2.2.2.2.2.1) hd fun q cA H1 hK1 hP hD hS1 => W_up X fun hu => ?_
  have e : q = b + M.length := newAt hP hD (by omega)
  subst e
  have e2 : cA = G.2.2.2 i := raEq (hK1.2 7 _ rfl).2 (C.1.2.2.2.2.2.1.1.2 i _ hi).2
  subst e2
  rw [cw_push, hM] at hP
  exact kk H1 locs ls hP hS1 hl
theorem kb_anew (C : Gb X G cc own nL d ret mc ms b) (i N t : Nat) {index : Nat} {CC : String} (hcl : Cond.classLink own index CC ∈ wsA) (hO : va_AO CC (cxS X)) (hi : (tysG G)[i]? = some (G.2.2.2 i, .object CC)) (hN : N < 2 ^ 31) (hbytes : N * 4 ≤ 536870912) (ht : M.length = t) (hz : (cxS X).heap.size + c = b + t) (h1 : c + 1 ≤ mc) (h2 : n + N ≤ ms) (hd : decode cc pc = .ok (.anewarray index, 3)) (hM : M ++ [.inl (G.2.2.2 i, N, .inr (.inr (.inr (.inr fun _ => none))))] = M') (kk : Vb X G Q b M' (c + 1) (n + N) (pc + 3) lc (.ref (b + t) :: st)) : Vb X G Q b M c n pc lc (.int (nI N) :: st) := by
  intro H locs ls hR hS hl
  subst ht
  refine va_newq (D := G.2.2.1) (cl := clz) (tys := tysG G) C.1.1 C.1.2.1 C.1.2.2.2.1 (C.1.2.2.2.2.1 _ hcl) hO C.1.2.2.2.2.2.1.1 hR cw_D hS (fun q h => Nat.le_trans C.2.2.2 h) (N' := N) (nI_pos hN) (nI_clamp hN) hbytes (Nat.le_trans h1 C.1.2.2.2.2.2.2.2.2.2.1) (Nat.le_trans h2 C.1.2.2.2.2.2.2.2.2.2.2.1) hd fun q cA H1 hK1 hP hD hS1 => W_up X fun hu => ?_
  have e : q = b + M.length := newAt hP hD (by omega)
  subst e
  have e2 : cA = G.2.2.2 i := raEq (hK1.2 7 _ rfl).2 (C.1.2.2.2.2.2.1.1.2 i _ hi).2
  subst e2
  rw [cw_push, hM] at hP
  exact kk H1 locs ls hP hS1 hl
theorem kb_putF (C : Gb X G cc own nL d ret mc ms b) (hname : (cxN X).name = "<init>") (κ t k : Nat) {N index : Nat} {CC : String} {T : u_T} {fs : List Value} {v : Value} {ty : FieldType} (ty0 : Nat → FieldType) (hc : clz[κ]? = some (CC, T, N)) (hin : ∀ w ∈ u_ws CC T N, w ∈ wsA) (hty : ∀ k, k < N → parseFieldDescriptor (T k).2.2.1 = some (ty0 k)) (hnm : ∀ a, a < N → ∀ b, b < N → a ≠ b → (T a).2.1 ≠ (T b).2.1) (hkn : k < N) (hlink : Cond.fieldLink own index CC (T k).2.1 (T k).2.2.1 ∈ wsA) (hT : (T k).1 = CC) (hT2 : (T k).1 = own) (hfin : (T k).2.2.2 = true) (hdsc : parseFieldDescriptor (T k).2.2.1 = some ty) (hn : narrow ty v = v) (hfit : fits ty v = true) (he : M[t]? = some (.inr (κ, fs))) (hl9 : k < fs.length) (hd : decode cc pc = .ok (.putfield index, 3)) (hM : M.set t (.inr (κ, fs.set k v)) = M') (kk : Vb X G Q b M' c n (pc + 3) lc st) : Vb X G Q b M c n pc lc (v :: .ref (b + t) :: st) := fun H locs ls hR hS hl =>
  va_putF (D := G.2.2.1) (ci := κ) (cl := clz) C.1.1 C.1.2.1 C.1.2.2.2.2.1 hin ty0 hty hnm C.1.2.2.2.1 C.1.2.2.2.2.2.1.1 hR cw_D hS t (cw_get he) hc k hkn (C.1.2.2.2.2.1 _ hlink) (fun x h => by rw [hT] at h; exact h) hfin hname hT2 hdsc hn hfit hl9 hd (fun H1 locs1 hP _ hS1 => kk H1 locs1 ls (by rw [cw_set, hM] at hP; exact hP) hS1 hl)
theorem kb_put (C : Gb X G cc own nL d ret mc ms b) (κ t k : Nat) {N index : Nat} {CC : String} {T : u_T} {fs : List Value} {v : Value} {ty : FieldType} (ty0 : Nat → FieldType) (hc : clz[κ]? = some (CC, T, N)) (hin : ∀ w ∈ u_ws CC T N, w ∈ wsA) (hty : ∀ k, k < N → parseFieldDescriptor (T k).2.2.1 = some (ty0 k)) (hnm : ∀ a, a < N → ∀ b, b < N → a ≠ b → (T a).2.1 ≠ (T b).2.1) (hkn : k < N) (hlink : Cond.fieldLink own index CC (T k).2.1 (T k).2.2.1 ∈ wsA) (hT : (T k).1 = CC) (hfin : (T k).2.2.2 = false) (hdsc : parseFieldDescriptor (T k).2.2.1 = some ty) (hn : narrow ty v = v) (hfit : fits ty v = true) (he : M[t]? = some (.inr (κ, fs))) (hl9 : k < fs.length) (hd : decode cc pc = .ok (.putfield index, 3)) (hM : M.set t (.inr (κ, fs.set k v)) = M') (kk : Vb X G Q b M' c n (pc + 3) lc st) : Vb X G Q b M c n pc lc (v :: .ref (b + t) :: st) := fun H locs ls hR hS hl =>
  va_put (D := G.2.2.1) (ci := κ) (cl := clz) C.1.1 C.1.2.1 C.1.2.2.2.2.1 hin ty0 hty hnm C.1.2.2.2.1 C.1.2.2.2.2.2.1.1 hR cw_D hS t (cw_get he) hc k hkn (C.1.2.2.2.2.1 _ hlink) (fun x h => by rw [hT] at h; exact h) hfin hdsc hn hfit hl9 hd (fun H1 locs1 hP _ hS1 => kk H1 locs1 ls (by rw [cw_set, hM] at hP; exact hP) hS1 hl)
theorem kb_get (C : Gb X G cc own nL d ret mc ms b) (κ t k : Nat) {N index a : Nat} {CC : String} {T : u_T} {fs : List Value} (hc : clz[κ]? = some (CC, T, N)) (hin : ∀ w ∈ u_ws CC T N, w ∈ wsA) (hkn : k < N) (hlink : Cond.fieldLink own index CC (T k).2.1 (T k).2.2.1 ∈ wsA) (hT : (T k).1 = CC) (he : M[t]? = some (.inr (κ, fs))) (hv : fs[k]? = some (.ref a)) (hd : decode cc pc = .ok (.getfield index, 3)) (kk : Vb X G Q b M c n (pc + 3) lc (.ref a :: st)) : Vb X G Q b M c n pc lc (.ref (b + t) :: st) := fun H locs ls hR hS hl =>
  va_get (D := G.2.2.1) (ci := κ) (cl := clz) C.1.1 C.1.2.1 C.1.2.2.2.2.1 hin C.1.2.2.2.1 C.1.2.2.2.2.2.1.1 hR t (cw_get he) hc k hkn (C.1.2.2.2.2.1 _ hlink) (fun x h => by rw [hT] at h; exact h) hv hd (kk H locs ls hR hS hl)
theorem kb_alen (C : Gb X G cc own nL d ret mc ms b) (t i : Nat) {ty : FieldType} {x : vp_A} (hi : (tysG G)[i]? = some (G.2.2.2 i, ty)) (he : M[t]? = some (.inl (G.2.2.2 i, x))) (hd : decode cc pc = .ok (.arraylength, 1)) (kk : Vb X G Q b M c n (pc + 1) lc (.int (nI x.1) :: st)) : Vb X G Q b M c n pc lc (.ref (b + t) :: st) := fun H locs ls hR hS hl =>
  va_alen (D := G.2.2.1) (cl := clz) C.1.1 C.1.2.1 C.1.2.2.2.2.2.1.1 hR t i (cw_get he) hi rfl hd (kk H locs ls hR hS hl)
theorem kb_aast (C : Gb X G cc own nL d ret mc ms b) (t u κ i k N : Nat) {r : vw_C} {fs : List Value} {f : Nat → Option Nat} (hi : (tysG G)[i]? = some (G.2.2.2 i, .object r.1)) (he : M[t]? = some (.inl (G.2.2.2 i, N, .inr (.inr (.inr (.inr f)))))) (hu : M[u]? = some (.inr (κ, fs))) (hc : clz[κ]? = some r) (hk : k < N) (hN : N < 2 ^ 31) (hd : decode cc pc = .ok (.aastore, 1)) (hM : M.set t (.inl (G.2.2.2 i, N, .inr (.inr (.inr (.inr (va_up f k (some (b + u)))))))) = M') (kk : Vb X G Q b M' c n (pc + 1) lc st) : Vb X G Q b M c n pc lc (.ref (b + u) :: .int (nI k) :: .ref (b + t) :: st) := fun H locs ls hR hS hl =>
  va_astq (D := G.2.2.1) (cl := clz) (r := r) C.1.1 C.1.2.1 C.1.2.2.2.2.2.1.1 hR cw_D hS t i u κ (cw_get he) hi (cw_get hu) hc (nI_in hk hN) hd (fun H1 locs1 hP _ hS1 => kk H1 locs1 ls (by rw [nI_clamp (Nat.lt_trans hk hN), cw_set, hM] at hP; exact hP) hS1 hl)
theorem kb_iast (C : Gb X G cc own nL d ret mc ms b) (t k N : Nat) {v : Int32} {f : Nat → Int32} (he : M[t]? = some (.inl (G.2.2.2 0, N, .inl f))) (hk : k < N) (hN : N < 2 ^ 31) (hd : decode cc pc = .ok (.iastore, 1)) (hM : M.set t (.inl (G.2.2.2 0, N, .inl (upd f k v))) = M') (kk : Vb X G Q b M' c n (pc + 1) lc st) : Vb X G Q b M c n pc lc (.int v :: .int (nI k) :: .ref (b + t) :: st) := fun H locs ls hR hS hl =>
  va_iast (D := G.2.2.1) (cl := clz) C.1.1 C.1.2.1 C.1.2.2.2.2.2.1.1 hR cw_D hS t 0 (cw_get he) rfl (nI_in hk hN) hd (fun H1 locs1 hP _ hS1 => kk H1 locs1 ls (by rw [nI_clamp (Nat.lt_trans hk hN), cw_set, hM] at hP; exact hP) hS1 hl)
theorem kb_wide (C : Gb X G cc own nL d ret mc ms b) {H : Heap} {locs : List Loc} (hS : va_S (fun q => b ≤ q) (cxS X).heap H locs) : va_S (AG G) (cxS X).heap H locs := ⟨hS.1, fun q h1 h2 => hS.2.1 q h1 (fun h => h2 (Nat.le_trans C.2.2.1 h)), fun q hq => Nat.le_trans C.2.2.1 (hS.2.2 q hq)⟩
theorem kb_fees (C : Gb X G cc own nL d ret mc ms b) (ho : own = "PeerNotes$Market") (hd : decode cc pc = .ok (.getstatic 29, 3)) (kk : Vb X G Q b M c n (pc + 3) lc (.ref G.2.1 :: st)) : Vb X G Q b M c n pc lc st := fun H locs ls hR hS hl =>
  va_getsN (host := "PeerNotes") C.1.1 C.1.2.1 C.1.2.2.2.2.2.2.1.1 (kb_wide C hS) C.1.2.2.2.1 (by rw [ho]; exact va_Nw.use rfl C.1.2.2.2.2.2.1.2.1) (fun x h => h) hd (kk H locs ls hR hS hl)
theorem kb_feelen (C : Gb X G cc own nL d ret mc ms b) (hd : decode cc pc = .ok (.arraylength, 1)) (kk : Vb X G Q b M c n (pc + 1) lc (.int (nI 4) :: st)) : Vb X G Q b M c n pc lc (.ref G.2.1 :: st) := fun H locs ls hR hS hl =>
  va_tlen C.1.1 C.1.2.1 C.1.2.2.2.2.2.2.1.2 (kb_wide C hS) rfl hd (kk H locs ls hR hS hl)
theorem kb_ret {F : List va_E} (C : Gb X G cc own nL d none mc ms b) (hd : decode cc pc = .ok (.return_, 1)) (hM : M = F) (hc : c = mc) (hn : n = ms) : Vb X G (QB X G b F mc ms) b M c n pc lc [] := by
  subst hM; subst hc; subst hn
  exact fun H locs ls hR hS hl => W.vret C.1.1 C.1.2.1 C.1.2.2.2.2.2.2.2.2.2.2.2.1 (fun t ht hW => ⟨⟨rfl, by rw [ht]; exact hR⟩, hS.F ht⟩) hS.2.2 hd (hlocks := C.1.2.2.2.2.2.2.2.2.2.2.2.2)
/-- what a constructor's call needs of the tables -/
def SiI (y : Ym) : Prop := SiM y 0 ∧ y.1.name = "<init>" ∧ Cond.instanceMethod y.1 ∈ wsA
theorem kb_end {mc' ms' t : Nat} {F : Nat → List va_E} {H : Heap} {locs : List Loc} {ls : Array Slot} {st0 : List Value} {a : Array Value} (ht : M.length = t) (hR : Rb G b M H) (hbH : b + t ≤ H.size) (hS : va_S (fun q => b ≤ q) (cxS X).heap H locs) (hl : lcok ls lc)
    (hr : va_Run X.1 X.2.1 X.2.2.1 X.2.2.2.1 X.2.2.2.2.1 X.2.2.2.2.2.1 X.2.2.2.2.2.2.1 X.2.2.2.2.2.2.2.1 X.2.2.2.2.2.2.2.2.1 X.2.2.2.2.2.2.2.2.2 H locs c n mc' ms' (F0 (cxM X) pc ls st0) st (Qk G (b + t) (F (b + t)) a) (fun q => b + t ≤ q))
    (kk : Vb X G Q b (M ++ F (b + t)) (c + mc') (n + ms') (pc + 3) lc st) : WX X H locs c n Q (F0 (cxM X) pc ls st0) := by
  subst ht
  intro T hT Y
  obtain ⟨v, st₀, t, T', L, h0, Y', hL, e1, e2, ⟨⟨hv, hRep⟩, hz, hk⟩, stp⟩ := hr T hT Y
  cases hv
  rw [h0] at hz hk
  have hS' : va_S (fun q => b ≤ q) (cxS X).heap T'.heap (locs ++ L) := ⟨Nat.le_trans hS.1 (by rw [e1]; exact hz), fun q h1 h2 => by rw [e1, hk q (Nat.lt_of_lt_of_le h1 hS.1) (fun h => h2 (Nat.le_trans (Nat.le_add_right _ _) h))]; exact hS.2.1 q h1 h2, fun q hq => by
      rcases List.mem_append.mp hq with h | h
      · exact hS.2.2 q h
      · exact Nat.le_trans (Nat.le_add_right _ _) (hL q h)⟩
  have hR' : Rb G b M T'.heap := hR.kept fun q h1 h2 => by rw [e1]; exact hk q (Nat.lt_of_lt_of_le h2 hbH) (Nat.not_le.mpr h2)
  obtain ⟨t2, a1, b1⟩ := kk T'.heap (locs ++ L) ls (hR'.app (by rw [e1]; exact hRep)) hS' hl T' rfl Y'
  exact ⟨t2, stp t2 a1, b1⟩
theorem Gb.world (C : Gb X G cc own nL d ret mc ms b) {H : Heap} {locs : List Loc} {e0 : va_E} {t : Nat} (ht : M.length = t) (hR : Rb G b (M ++ [e0]) H) (hS : va_S (fun q => b ≤ q) (cxS X).heap H locs) (hz : (cxS X).heap.size + c = b + (t + 1)) (hu : H.size ≤ (cxS X).heap.size + c) {U : State} (hU : U.heap = H) (hW : (cxS X).WarmedH U.vm) : Wc G (b + t) [e0] U := by
  subst ht
  have h1 := hR.size (Nat.le_trans C.2.2.2 hS.1)
  rw [List.length_append] at h1
  have h2 : ([e0] : List va_E).length = 1 := rfl
  rw [h2] at h1
  refine ⟨⟨by rw [hU, h2]; omega, by rw [hU]; exact hR.right⟩, Nat.le_trans C.2.2.1 (Nat.le_add_right _ _), C.1.2.2.2.2.2.1.warm hW, (Wf.kept (C.1.2.2.2.2.2.2.1.alike hW.alike) (H1 := U.heap) (fun a h1 h2 => by rw [hU]; exact hS.2.1 a h1 (fun h => h2 (Nat.le_trans C.2.2.1 h)))), C.2.1.moved hW.alike⟩
/-- the call of a constructor -/
theorem kb_call (C : Gb X G cc own nL d ret mc ms b) (t : Nat) {d' mc' ms' index : Nat} {y : Ym} {e0 : va_E} {F : Nat → List va_E} {E : List va_E} (hs : SiI y) (hlk : Cond.methodLink own index y.1 ∈ wsA ∨ (own, index, y.1, "PeerNotes") ∈ nsM) (e4 : y.2.2.2 = none) (hcl : Clk G d' mc' ms' y e0 F) (hd' : d' + 1 ≤ d) (ht : E.length = t) (hM : M = E ++ [e0]) (hz : (cxS X).heap.size + c = b + (t + 1)) (h1 : c + mc' ≤ mc) (h2 : n + ms' ≤ ms) (hlc : lc.length = nL) (hcat : (st.map fun v => v.category).sum ≤ 8) (hd : decode cc pc = .ok (.invokespecial index, 3)) (hM' : E ++ F (b + t) = M') (kk : Vb X G Q b M' (c + mc') (n + ms') (pc + 3) lc st) : Vb X G Q b M c n pc lc (.ref (b + t) :: st) := by
  subst hM; subst hM'
  intro H locs ls hR hS hl
  obtain ⟨⟨s1, s2, s3, s4⟩, hnm, hinst⟩ := hs
  obtain ⟨y1, y2, y3, y4⟩ := y
  cases e4
  have C1 := C.1
  obtain ⟨g1, g2, g3, g4, hts, g6, g7, hf, ho, g10, g11, g12, g13⟩ := C1
  have hwd : ∀ w ∈ wsY (y1, y2, y3, none), ∀ (a' : Array Value) (U : State), (cxS X).WarmedH U.vm → w.before a' U = true := fun w hw a' U hW => by
    have hw' : w ∈ wsA := (List.mem_cons.mp hw).elim (fun e => e ▸ s2) id
    exact word_at hW (wsA_good hw') (hts w hw')
  have hpar : ∀ sig, parseMethodDescriptor y1.desc = some sig → 0 = sig.parameters.length := fun sig h => by
    have h5 := s3.2.2
    rw [h] at h5
    exact (Option.some.inj h5).symm
  have hlo : 8 + (y3 + 11) + 29 * d' ≤ (cxR X).locals := by
    have : y3 ≤ 10 := s4
    omega
  have hfr : d' + 1 ≤ (cxR X).frames := Nat.le_trans hd' hf
  refine W_up X fun hu => ?_
  have hbH : b + t ≤ H.size := by
    have h9 := hR.size (Nat.le_trans C.2.2.2 hS.1)
    rw [List.length_append] at h9
    omega
  have hp : PreS (cxS X) H (va_Pc [.ref (b + t)] (Wc G (b + t) [e0])) (.ref (b + t) :: []) := ⟨blindK, fun U hU hW => ⟨rfl, C.world ht hR hS hz hu hU hW⟩⟩
  rcases hlk with hlk | hlk
  · exact kb_end ht hR.left hbH hS hl (va_runI (nL := nL) (b := b + t) (As := []) (rest := st) ⟨g1, g2, g3, g4, hts⟩ (hcl _ _) ⟨⟨rfl, rfl, hfr, hlo, hwd, List.mem_cons_self, hts _ s2, hts _ s1, ⟨s3.1, s3.2.1⟩, hpar, hts _ hlk⟩, hnm, hts _ hinst⟩ hp rfl rfl (hl.1.trans hlc) rfl (lv_room hcat) hd ⟨Nat.le_trans h1 g10, Nat.le_trans h2 g11⟩) kk
  · exact kb_end ht hR.left hbH hS hl (va_runIN (nL := nL) (host := "PeerNotes") (b := b + t) (As := []) (rest := st) ⟨g1, g2, g3, g4, hts⟩ (hcl _ _) ⟨⟨⟨rfl, rfl, hfr, hlo, hwd, List.mem_cons_self⟩, hts _ s2, hts _ s1, ⟨s3.1, s3.2.1⟩, hpar, va_Nw.use rfl (g6.2.2 _ hlk)⟩, hnm, hts _ hinst⟩ hp rfl rfl (hl.1.trans hlc) rfl (lv_room hcat) hd ⟨Nat.le_trans h1 g10, Nat.le_trans h2 g11⟩) kk
end VB
end
section
/-! THE CONSTRUCTORS, by program (wip/whole/con.py) -/
theorem wo_1 : Cond.instanceMethod objectInit ∈ wsA := (wA 59 (by decide +kernel) rfl)
theorem wo_2 : Cond.code objectInit ⟨#[0xb1]⟩ 1 none ∈ wsA := (wA 60 (by decide +kernel) rfl)
theorem wr_int : Cond.arrayClass .int ∈ wsA := (wA 97 (by decide +kernel) rfl)
theorem wr_char : Cond.arrayClass .char ∈ wsA := (wA 295 (by decide +kernel) rfl)
abbrev m_X0_init : Ym := (yX0_init, cX0_init, 1, none)
theorem si_X0_init : SiI m_X0_init := ⟨⟨(wA 48 (by decide +kernel) rfl), (wA 276 (by decide +kernel) rfl), ⟨by decide +kernel, by decide +kernel, by decide +kernel⟩, by decide⟩, rfl, (wA 275 (by decide +kernel) rfl)⟩
theorem wi_X0 : Cond.instantiable RX0 4 ∈ wsA := (wA 273 (by decide +kernel) rfl)
theorem wn_X0 : Cond.initialized RX0 ∈ wsA := (wA 48 (by decide +kernel) rfl)
abbrev m_X1_init : Ym := (yX1_init, cX1_init, 2, none)
theorem si_X1_init : SiI m_X1_init := ⟨⟨(wA 47 (by decide +kernel) rfl), (wA 269 (by decide +kernel) rfl), ⟨by decide +kernel, by decide +kernel, by decide +kernel⟩, by decide⟩, rfl, (wA 268 (by decide +kernel) rfl)⟩
theorem wi_X1 : Cond.instantiable RX1 4 ∈ wsA := (wA 266 (by decide +kernel) rfl)
theorem wn_X1 : Cond.initialized RX1 ∈ wsA := (wA 47 (by decide +kernel) rfl)
abbrev m_X2_init : Ym := (yX2_init, cX2_init, 2, none)
theorem si_X2_init : SiI m_X2_init := ⟨⟨(wA 46 (by decide +kernel) rfl), (wA 252 (by decide +kernel) rfl), ⟨by decide +kernel, by decide +kernel, by decide +kernel⟩, by decide⟩, rfl, (wA 251 (by decide +kernel) rfl)⟩
theorem wi_X2 : Cond.instantiable RX2 2 ∈ wsA := (wA 249 (by decide +kernel) rfl)
theorem wn_X2 : Cond.initialized RX2 ∈ wsA := (wA 46 (by decide +kernel) rfl)
abbrev m_X3_init : Ym := (yX3_init, cX3_init, 1, none)
theorem si_X3_init : SiI m_X3_init := ⟨⟨(wA 43 (by decide +kernel) rfl), (wA 78 (by decide +kernel) rfl), ⟨by decide +kernel, by decide +kernel, by decide +kernel⟩, by decide⟩, rfl, (wA 77 (by decide +kernel) rfl)⟩
theorem wi_X3 : Cond.instantiable RX3 3 ∈ wsA := (wA 75 (by decide +kernel) rfl)
theorem wn_X3 : Cond.initialized RX3 ∈ wsA := (wA 43 (by decide +kernel) rfl)
abbrev m_X4_init : Ym := (yX4_init, cX4_init, 1, none)
theorem si_X4_init : SiI m_X4_init := ⟨⟨(wA 44 (by decide +kernel) rfl), (wA 101 (by decide +kernel) rfl), ⟨by decide +kernel, by decide +kernel, by decide +kernel⟩, by decide⟩, rfl, (wA 100 (by decide +kernel) rfl)⟩
theorem wi_X4 : Cond.instantiable RX4 11 ∈ wsA := (wA 98 (by decide +kernel) rfl)
theorem wn_X4 : Cond.initialized RX4 ∈ wsA := (wA 44 (by decide +kernel) rfl)
abbrev m_X5_init : Ym := (yX5_init, cX5_init, 2, none)
theorem si_X5_init : SiI m_X5_init := ⟨⟨(wA 42 (by decide +kernel) rfl), (wA 65 (by decide +kernel) rfl), ⟨by decide +kernel, by decide +kernel, by decide +kernel⟩, by decide⟩, rfl, (wA 64 (by decide +kernel) rfl)⟩
theorem wi_X5 : Cond.instantiable RX5 10 ∈ wsA := (wA 62 (by decide +kernel) rfl)
theorem wn_X5 : Cond.initialized RX5 ∈ wsA := (wA 42 (by decide +kernel) rfl)
abbrev m_X6_init : Ym := (yX6_init, cX6_init, 1, none)
theorem si_X6_init : SiI m_X6_init := ⟨⟨(wA 45 (by decide +kernel) rfl), (wA 159 (by decide +kernel) rfl), ⟨by decide +kernel, by decide +kernel, by decide +kernel⟩, by decide⟩, rfl, (wA 158 (by decide +kernel) rfl)⟩
theorem wi_X6 : Cond.instantiable RX6 7 ∈ wsA := (wA 156 (by decide +kernel) rfl)
theorem wn_X6 : Cond.initialized RX6 ∈ wsA := (wA 45 (by decide +kernel) rfl)
abbrev m_X7_init : Ym := (yX7_init, cX7_init, 1, none)
theorem si_X7_init : SiI m_X7_init := ⟨⟨(wA 49 (by decide +kernel) rfl), (wA 317 (by decide +kernel) rfl), ⟨by decide +kernel, by decide +kernel, by decide +kernel⟩, by decide⟩, rfl, (wA 316 (by decide +kernel) rfl)⟩
theorem wi_X7 : Cond.instantiable RX7 6 ∈ wsA := (wA 314 (by decide +kernel) rfl)
theorem wn_X7 : Cond.initialized RX7 ∈ wsA := (wA 49 (by decide +kernel) rfl)
abbrev m_X8_init : Ym := (yX8_init, cX8_init, 1, none)
theorem si_X8_init : SiI m_X8_init := ⟨⟨(wA 50 (by decide +kernel) rfl), (wA 356 (by decide +kernel) rfl), ⟨by decide +kernel, by decide +kernel, by decide +kernel⟩, by decide⟩, rfl, (wA 355 (by decide +kernel) rfl)⟩
theorem wi_X8 : Cond.instantiable RX8 3 ∈ wsA := (wA 353 (by decide +kernel) rfl)
theorem wn_X8 : Cond.initialized RX8 ∈ wsA := (wA 50 (by decide +kernel) rfl)
abbrev m_X9_init : Ym := (yX9_init, cX9_init, 1, none)
theorem si_X9_init : SiI m_X9_init := ⟨⟨(wA 41 (by decide +kernel) rfl), (wA 57 (by decide +kernel) rfl), ⟨by decide +kernel, by decide +kernel, by decide +kernel⟩, by decide⟩, rfl, (wA 56 (by decide +kernel) rfl)⟩
theorem wi_X9 : Cond.instantiable RX9 8 ∈ wsA := (wA 54 (by decide +kernel) rfl)
theorem wn_X9 : Cond.initialized RX9 ∈ wsA := (wA 41 (by decide +kernel) rfl)
abbrev m_X10_init : Ym := (yX10_init, cX10_init, 1, none)
theorem si_X10_init : SiI m_X10_init := ⟨⟨(wA 51 (by decide +kernel) rfl), (wA 750 (by decide +kernel) rfl), ⟨by decide +kernel, by decide +kernel, by decide +kernel⟩, by decide⟩, rfl, (wA 749 (by decide +kernel) rfl)⟩
theorem wi_X10 : Cond.instantiable RX10 15 ∈ wsA := (wA 747 (by decide +kernel) rfl)
theorem wn_X10 : Cond.initialized RX10 ∈ wsA := (wA 51 (by decide +kernel) rfl)
theorem wl_X0_1 : Cond.methodLink RX0 1 objectInit ∈ wsA := (wA 277 (by decide +kernel) rfl)
theorem wl_X1_3 : Cond.methodLink RX1 3 objectInit ∈ wsA := (wA 270 (by decide +kernel) rfl)
theorem wf_X1_9 : Cond.fieldLink RX1 9 "PeerNotes$FundingText" "signs" "[C" ∈ wsA := (wA 296 (by decide +kernel) rfl)
theorem wf_X1_15 : Cond.fieldLink RX1 15 "PeerNotes$FundingText" "length" "I" ∈ wsA := (wA 298 (by decide +kernel) rfl)
theorem wc_X1_19 : Cond.classLink RX1 19 RX0 ∈ wsA := (wA 271 (by decide +kernel) rfl)
theorem wf_X1_21 : Cond.fieldLink RX1 21 "PeerNotes$FundingText" "fundings" "[LPeerNotes$Funding;" ∈ wsA := (wA 300 (by decide +kernel) rfl)
theorem wf_X1_25 : Cond.fieldLink RX1 25 "PeerNotes$FundingText" "fundingCount" "I" ∈ wsA := (wA 302 (by decide +kernel) rfl)
theorem wl_X1_28 : Cond.methodLink RX1 28 yX0_init ∈ wsA ∨ (RX1, 28, yX0_init, "PeerNotes") ∈ nsM := Or.inr (by decide +kernel)
theorem wl_X2_3 : Cond.methodLink RX2 3 objectInit ∈ wsA := (wA 253 (by decide +kernel) rfl)
theorem wc_X2_9 : Cond.classLink RX2 9 RX5 ∈ wsA := (wA 254 (by decide +kernel) rfl)
theorem wf_X2_11 : Cond.fieldLink RX2 11 "PeerNotes$History" "states" "[LPeerNotes$Market;" ∈ wsA := (wA 257 (by decide +kernel) rfl)
theorem wf_X2_17 : Cond.fieldLink RX2 17 "PeerNotes$History" "size" "I" ∈ wsA := (wA 258 (by decide +kernel) rfl)
theorem wl_X2_21 : Cond.methodLink RX2 21 yX5_init ∈ wsA ∨ (RX2, 21, yX5_init, "PeerNotes") ∈ nsM := Or.inl (wA 256 (by decide +kernel) rfl)
theorem wl_X3_1 : Cond.methodLink RX3 1 objectInit ∈ wsA := (wA 79 (by decide +kernel) rfl)
theorem wl_X4_3 : Cond.methodLink RX4 3 objectInit ∈ wsA := (wA 102 (by decide +kernel) rfl)
theorem wl_X5_3 : Cond.methodLink RX5 3 objectInit ∈ wsA := (wA 66 (by decide +kernel) rfl)
theorem wc_X5_9 : Cond.classLink RX5 9 RX3 ∈ wsA := (wA 67 (by decide +kernel) rfl)
theorem wf_X5_11 : Cond.fieldLink RX5 11 "PeerNotes$Market" "investors" "[LPeerNotes$Investor;" ∈ wsA := (wA 200 (by decide +kernel) rfl)
theorem wc_X5_17 : Cond.classLink RX5 17 RX4 ∈ wsA := (wA 69 (by decide +kernel) rfl)
theorem wf_X5_19 : Cond.fieldLink RX5 19 "PeerNotes$Market" "loans" "[LPeerNotes$Loan;" ∈ wsA := (wA 203 (by decide +kernel) rfl)
theorem wc_X5_23 : Cond.classLink RX5 23 RX6 ∈ wsA := (wA 71 (by decide +kernel) rfl)
theorem wf_X5_25 : Cond.fieldLink RX5 25 "PeerNotes$Market" "notes" "[LPeerNotes$Note;" ∈ wsA := (wA 206 (by decide +kernel) rfl)
theorem wf_X5_33 : Cond.fieldLink RX5 33 "PeerNotes$Market" "earned" "[I" ∈ wsA := (wA 209 (by decide +kernel) rfl)
theorem wf_X5_36 : Cond.fieldLink RX5 36 "PeerNotes$Market" "investorCount" "I" ∈ wsA := (wA 211 (by decide +kernel) rfl)
theorem wf_X5_40 : Cond.fieldLink RX5 40 "PeerNotes$Market" "loanCount" "I" ∈ wsA := (wA 214 (by decide +kernel) rfl)
theorem wf_X5_43 : Cond.fieldLink RX5 43 "PeerNotes$Market" "noteCount" "I" ∈ wsA := (wA 216 (by decide +kernel) rfl)
theorem wf_X5_46 : Cond.fieldLink RX5 46 "PeerNotes$Market" "months" "I" ∈ wsA := (wA 219 (by decide +kernel) rfl)
theorem wf_X5_49 : Cond.fieldLink RX5 49 "PeerNotes$Market" "pool" "I" ∈ wsA := (wA 221 (by decide +kernel) rfl)
theorem wf_X5_52 : Cond.fieldLink RX5 52 "PeerNotes$Market" "share" "I" ∈ wsA := (wA 224 (by decide +kernel) rfl)
theorem wl_X5_55 : Cond.methodLink RX5 55 yX3_init ∈ wsA ∨ (RX5, 55, yX3_init, "PeerNotes") ∈ nsM := Or.inr (by decide +kernel)
theorem wl_X5_56 : Cond.methodLink RX5 56 yX4_init ∈ wsA ∨ (RX5, 56, yX4_init, "PeerNotes") ∈ nsM := Or.inr (by decide +kernel)
theorem wl_X5_57 : Cond.methodLink RX5 57 yX6_init ∈ wsA ∨ (RX5, 57, yX6_init, "PeerNotes") ∈ nsM := Or.inr (by decide +kernel)
theorem wl_X6_1 : Cond.methodLink RX6 1 objectInit ∈ wsA := (wA 160 (by decide +kernel) rfl)
theorem wl_X7_3 : Cond.methodLink RX7 3 objectInit ∈ wsA := (wA 318 (by decide +kernel) rfl)
theorem wl_X8_3 : Cond.methodLink RX8 3 objectInit ∈ wsA := (wA 357 (by decide +kernel) rfl)
theorem wf_X8_9 : Cond.fieldLink RX8 9 "PeerNotes$Payout" "interest" "[I" ∈ wsA := (wA 358 (by decide +kernel) rfl)
theorem wf_X8_15 : Cond.fieldLink RX8 15 "PeerNotes$Payout" "principal" "[I" ∈ wsA := (wA 359 (by decide +kernel) rfl)
theorem wf_X8_18 : Cond.fieldLink RX8 18 "PeerNotes$Payout" "weights" "[I" ∈ wsA := (wA 360 (by decide +kernel) rfl)
theorem wl_X9_1 : Cond.methodLink RX9 1 objectInit ∈ wsA := (wA 58 (by decide +kernel) rfl)
theorem wc_X9_7 : Cond.classLink RX9 7 RX5 ∈ wsA := (wA 61 (by decide +kernel) rfl)
theorem wl_X9_9 : Cond.methodLink RX9 9 yX5_init ∈ wsA ∨ (RX9, 9, yX5_init, "PeerNotes") ∈ nsM := Or.inl (wA 63 (by decide +kernel) rfl)
theorem wf_X9_10 : Cond.fieldLink RX9 10 "PeerNotes" "market" "LPeerNotes$Market;" ∈ wsA := (wA 368 (by decide +kernel) rfl)
theorem wf_X9_16 : Cond.fieldLink RX9 16 "PeerNotes" "before" "LPeerNotes$Market;" ∈ wsA := (wA 369 (by decide +kernel) rfl)
theorem wf_X9_19 : Cond.fieldLink RX9 19 "PeerNotes" "kept" "LPeerNotes$Market;" ∈ wsA := (wA 370 (by decide +kernel) rfl)
theorem wf_X9_22 : Cond.fieldLink RX9 22 "PeerNotes" "hasKept" "Z" ∈ wsA := (wA 371 (by decide +kernel) rfl)
theorem wc_X9_26 : Cond.classLink RX9 26 RX2 ∈ wsA := (wA 248 (by decide +kernel) rfl)
theorem wl_X9_28 : Cond.methodLink RX9 28 yX2_init ∈ wsA ∨ (RX9, 28, yX2_init, "PeerNotes") ∈ nsM := Or.inl (wA 250 (by decide +kernel) rfl)
theorem wf_X9_29 : Cond.fieldLink RX9 29 "PeerNotes" "history" "LPeerNotes$History;" ∈ wsA := (wA 372 (by decide +kernel) rfl)
theorem wc_X9_33 : Cond.classLink RX9 33 RX1 ∈ wsA := (wA 265 (by decide +kernel) rfl)
theorem wl_X9_35 : Cond.methodLink RX9 35 yX1_init ∈ wsA ∨ (RX9, 35, yX1_init, "PeerNotes") ∈ nsM := Or.inl (wA 267 (by decide +kernel) rfl)
theorem wf_X9_36 : Cond.fieldLink RX9 36 "PeerNotes" "text" "LPeerNotes$FundingText;" ∈ wsA := (wA 373 (by decide +kernel) rfl)
theorem wc_X9_40 : Cond.classLink RX9 40 RX7 ∈ wsA := (wA 313 (by decide +kernel) rfl)
theorem wl_X9_42 : Cond.methodLink RX9 42 yX7_init ∈ wsA ∨ (RX9, 42, yX7_init, "PeerNotes") ∈ nsM := Or.inr (by decide +kernel)
theorem wf_X9_43 : Cond.fieldLink RX9 43 "PeerNotes" "parts" "LPeerNotes$Parts;" ∈ wsA := (wA 374 (by decide +kernel) rfl)
theorem wc_X9_47 : Cond.classLink RX9 47 RX8 ∈ wsA := (wA 352 (by decide +kernel) rfl)
theorem wl_X9_49 : Cond.methodLink RX9 49 yX8_init ∈ wsA ∨ (RX9, 49, yX8_init, "PeerNotes") ∈ nsM := Or.inr (by decide +kernel)
theorem wf_X9_50 : Cond.fieldLink RX9 50 "PeerNotes" "payout" "LPeerNotes$Payout;" ∈ wsA := (wA 375 (by decide +kernel) rfl)
theorem wl_X10_7 : Cond.methodLink RX10 7 objectInit ∈ wsA := (wA 751 (by decide +kernel) rfl)
theorem wf_X10_13 : Cond.fieldLink RX10 13 "PeerNotesModel" "now" "[I" ∈ wsA := (wA 753 (by decide +kernel) rfl)
theorem wf_X10_17 : Cond.fieldLink RX10 17 "PeerNotesModel" "put" "[I" ∈ wsA := (wA 754 (by decide +kernel) rfl)
theorem wf_X10_20 : Cond.fieldLink RX10 20 "PeerNotesModel" "kept" "[I" ∈ wsA := (wA 755 (by decide +kernel) rfl)
theorem wf_X10_23 : Cond.fieldLink RX10 23 "PeerNotesModel" "was" "[I" ∈ wsA := (wA 757 (by decide +kernel) rfl)
theorem wf_X10_26 : Cond.fieldLink RX10 26 "PeerNotesModel" "text" "[I" ∈ wsA := (wA 759 (by decide +kernel) rfl)
theorem wf_X10_29 : Cond.fieldLink RX10 29 "PeerNotesModel" "weight" "[I" ∈ wsA := (wA 762 (by decide +kernel) rfl)
theorem wf_X10_32 : Cond.fieldLink RX10 32 "PeerNotesModel" "gets" "[I" ∈ wsA := (wA 763 (by decide +kernel) rfl)
theorem wf_X10_35 : Cond.fieldLink RX10 35 "PeerNotesModel" "told" "[I" ∈ wsA := (wA 766 (by decide +kernel) rfl)
theorem wc_L_7 : Cond.classLink RL 7 RX9 ∈ wsA := (wA 53 (by decide +kernel) rfl)
theorem wl_L_9 : Cond.methodLink RL 9 yX9_init ∈ wsA ∨ (RL, 9, yX9_init, "PeerNotes") ∈ nsM := Or.inl (wA 55 (by decide +kernel) rfl)
theorem wc_L_10 : Cond.classLink RL 10 RX10 ∈ wsA := (wA 746 (by decide +kernel) rfl)
theorem wl_L_12 : Cond.methodLink RL 12 yX10_init ∈ wsA ∨ (RL, 12, yX10_init, "PeerNotes") ∈ nsM := Or.inl (wA 748 (by decide +kernel) rfl)
/-! the cells -/
abbrev iv0 : va_E := .inr (3, [.int 0, .int 0, .int 0])
abbrev lo0 : va_E := .inr (4, [.int 0, .int 0, .int 0, .int 0, .int 0, .int 0, .int 0, .int 0, .int 0, .int 0, .int 0])
abbrev no0 : va_E := .inr (6, [.int 0, .int 0, .int 0, .int 0, .int 0, .int 0, .int 0])
abbrev fd0 : va_E := .inr (0, [.int 0, .int 0, .int 0, .int 0])
abbrev pt0 : va_E := .inr (7, [.int 0, .int 0, .int 0, .int 0, .int 0, .int 0])
abbrev po0 : va_E := .inr (8, [.null, .null, .null])
abbrev tx0 : va_E := .inr (1, [.null, .int 0, .null, .int 0])
abbrev mk0 : va_E := .inr (5, [.null, .null, .null, .null, .int 0, .int 0, .int 0, .int 0, .int 0, .int 0])
abbrev hs0 : va_E := .inr (2, [.null, .int 0])
abbrev pn0 : va_E := .inr (9, [.null, .null, .null, .int 0, .null, .null, .null, .null])
abbrev mo0 : va_E := .inr (10, [.int 0, .null, .null, .null, .int 0, .null, .int 0, .null, .int 0, .int 0, .null, .null, .int 0, .int 0, .null])
abbrev zi (G : Gm) (N : Nat) : va_E := .inl (G.2.2.2 0, N, .inl fun _ => 0)
abbrev zc (G : Gm) : va_E := .inl (G.2.2.2 1, 60, .inl fun _ => 0)
abbrev mn5 (G : Gm) : va_E := .inl (G.2.2.2 0, 564, .inl (upd (fun _ => 0) 5 5))
abbrev ra0 (G : Gm) (i N : Nat) : va_E := .inl (G.2.2.2 i, N, .inr (.inr (.inr (.inr fun _ => none))))
/-- an array of references of which k are set, to the cells a, a + w, .. -/
def ranf (a w k : Nat) : Nat → Option Nat := fun j => if j < k then some (a + w * j) else none
abbrev ran (G : Gm) (i N a w k : Nat) : va_E := .inl (G.2.2.2 i, N, .inr (.inr (.inr (.inr (ranf a w k)))))
theorem ranf_0 (a w : Nat) : (fun _ => none) = ranf a w 0 := funext fun j => (if_neg (Nat.not_lt_zero j)).symm
theorem ranf_up (a w k : Nat) : va_up (ranf a w k) k (some (a + w * k)) = ranf a w (k + 1) := by
  funext j
  unfold va_up ranf
  by_cases h : j = k
  · subst h
    rw [if_pos rfl, if_pos (Nat.lt_succ_self _)]
  · rw [if_neg h]
    by_cases h2 : j < k
    · rw [if_pos h2, if_pos (by omega)]
    · rw [if_neg h2, if_neg (by omega)]
/-- k pieces, one behind another -/
def fillB (F : Nat → List va_E) (a w : Nat) : Nat → List va_E
  | 0 => []
  | k + 1 => fillB F a w k ++ F (a + w * k)
theorem fb_len0 {F : Nat → List va_E} {w : Nat} (h : ∀ a, (F a).length = w) (a : Nat) : ∀ k, (fillB F a w k).length = w * k
  | 0 => rfl
  | k + 1 => by
    show (fillB F a w k ++ F (a + w * k)).length = w * (k + 1)
    rw [List.length_append, fb_len0 h a k, h]
    rfl
theorem one_len {x : va_E} {a k : Nat} : (fillB (fun _ => [x]) a 1 k).length = k := (fb_len0 (fun _ => rfl) a k).trans (Nat.one_mul k)
theorem set_mid {α : Type} (pre : List α) (x y : α) (R : List α) : (pre ++ x :: R).set pre.length y = pre ++ y :: R := by
  induction pre with
  | nil => rfl
  | cons a l ih => exact congrArg (a :: ·) ih
theorem get_mid {α : Type} (pre : List α) (x : α) (R : List α) : (pre ++ x :: R)[pre.length]? = some x := by
  rw [List.getElem?_append_right (Nat.le_refl _), Nat.sub_self]
  rfl
theorem kb_sum {X : Cx} {G : Gm} {Q : State → Prop} {b c n pc : Nat} {M : List va_E} {lc : List (Option Value)} {st : List Value} (c' n' : Nat) (hc : c = c') (hn : n = n') (kk : Vb X G Q b M c' n' pc lc st) : Vb X G Q b M c n pc lc st := by
  subst hc; subst hn
  exact kk
theorem kb_eqM {X : Cx} {G : Gm} {Q : State → Prop} {b c n pc : Nat} {M M' : List va_E} {lc : List (Option Value)} {st : List Value} (h : M = M') (kk : Vb X G Q b M' c n pc lc st) : Vb X G Q b M c n pc lc st := by
  subst h
  exact kk
/-- a loop that fills an array with new objects -/
theorem kb_fill {X : Cx} {G : Gm} {mc ms : Nat} {Q : State → Prop} {b c0 n0 p0 : Nat} {cc : ByteArray} {own : String} {d : Nat} {ret : Option FieldType} (C : Gb X G cc own 2 d ret mc ms b)
    (κ0 kf ta i κ N L : Nat) {pre post : List va_E} {w v : Nat} {C0 : String} {T0 : u_T} {N0 ig : Nat} {fs0 : List Value} (hc0 : clz[κ0]? = some (C0, T0, N0)) (hin0 : ∀ w ∈ u_ws C0 T0 N0, w ∈ wsA) (hkf : kf < N0) (hlk0 : Cond.fieldLink own ig C0 (T0 kf).2.1 (T0 kf).2.2.1 ∈ wsA) (hT0 : (T0 kf).1 = C0)
    {CX : String} {TX : u_T} {NX ix : Nat} {fs : List Value} (hi : (tysG G)[i]? = some (G.2.2.2 i, .object CX)) (ty0 : Nat → FieldType) (hcx : clz[κ]? = some (CX, TX, NX)) (hrx : (CX, TX, NX).1 = CX) (hinx : ∀ w ∈ u_ws CX TX NX, w ∈ wsA) (htyx : ∀ k, k < NX → parseFieldDescriptor (TX k).2.2.1 = some (ty0 k)) (hclx : Cond.classLink own ix CX ∈ wsA) (hinst : Cond.instantiable CX NX ∈ wsA) (hini : Cond.initialized CX ∈ wsA) (hfs : ∀ j, j < NX → defaultValue (ty0 j) = vp_V fs j)
    {d' mc' ms' ic : Nat} {y : Ym} {F : Nat → List va_E} (hs : SiI y) (hlk : Cond.methodLink own ic y.1 ∈ wsA ∨ (own, ic, y.1, "PeerNotes") ∈ nsM) (e4 : y.2.2.2 = none) (hcl : Clk G d' mc' ms' y (.inr (κ, fs)) F) (hd' : d' + 1 ≤ d) (hF0 : ∀ a, ∃ fs', (F a)[0]? = some (.inr (κ, fs'))) (hFl : ∀ a, (F a).length = w)
    (hw : w = 1 + mc') (hv : v = NX + ms') (hpre : pre[0]? = some (.inr (κ0, fs0))) (hfs0 : fs0[kf]? = some (.ref (b + ta))) (hta : pre.length = ta) (hL : (pre ++ ra0 G i N :: post).length = L) (hz : (cxS X).heap.size + c0 = b + L) (hN : N < 2 ^ 27) (h1 : c0 + w * N ≤ mc) (h2 : n0 + v * N ≤ ms)
    (d0 : decode cc p0 = .ok (.iload_n 1, 1)) (d1 : decode cc (p0 + 1) = .ok (.aload_n 0, 1)) (d2 : decode cc (p0 + 2) = .ok (.getfield ig, 3)) (d5 : decode cc (p0 + 5) = .ok (.arraylength, 1)) (d6 : decode cc (p0 + 6) = .ok (.if_icmp .ge 22, 3)) (d9 : decode cc (p0 + 9) = .ok (.aload_n 0, 1)) (d10 : decode cc (p0 + 10) = .ok (.getfield ig, 3)) (d13 : decode cc (p0 + 13) = .ok (.iload_n 1, 1)) (d14 : decode cc (p0 + 14) = .ok (.new ix, 3)) (d17 : decode cc (p0 + 17) = .ok (.dup, 1)) (d18 : decode cc (p0 + 18) = .ok (.invokespecial ic, 3)) (d21 : decode cc (p0 + 21) = .ok (.aastore, 1)) (d22 : decode cc (p0 + 22) = .ok (.iinc 1 1, 3)) (d25 : decode cc (p0 + 25) = .ok (.goto (-25), 3))
    (kk : Vb X G Q b (pre ++ ran G i N (b + L) w N :: (post ++ fillB F (b + L) w N)) (c0 + w * N) (n0 + v * N) (p0 + 28) [some (.ref b), some (.int (nI N))] []) : Vb X G Q b (pre ++ ra0 G i N :: post) c0 n0 p0 [some (.ref b), some (.int (nI 0))] [] := by
  have hN31 : N < 2 ^ 31 := by omega
  have key : ∀ r k : Nat, k + r = N → Vb X G Q b (pre ++ ran G i N (b + L) w k :: (post ++ fillB F (b + L) w k)) (c0 + w * k) (n0 + v * k) p0 [some (.ref b), some (.int (nI k))] [] := by
    intro r
    induction r with
    | zero =>
      intro k hk
      have hk : k = N := hk
      subst hk
      have hget : (pre ++ ran G i k (b + L) w k :: (post ++ fillB F (b + L) w k))[0]? = some (.inr (κ0, fs0)) := by
        rw [List.getElem?_append_left (List.getElem?_eq_some_iff.mp hpre).1]; exact hpre
      refine kb_iload_n C d0 rfl rfl ?_
      refine kb_aload_n C d1 rfl rfl ?_
      refine kb_get C κ0 0 kf hc0 hin0 hkf hlk0 hT0 hget hfs0 d2 ?_
      refine kb_alen C ta i hi (x := (k, .inr (.inr (.inr (.inr (ranf (b + L) w k)))))) (by rw [← hta]; exact get_mid _ _ _) d5 ?_
      refine kb_icmp_ge C d6 (tgt := p0 + 28) (by omega) (fun _ => kk) (fun h => absurd (nI_le (Nat.le_refl k) hN31) h)
    | succ r ih =>
      intro k hk
      have hkN : k < N := by omega
      have hwk : w * k + w ≤ w * N := by rw [← Nat.mul_succ]; exact Nat.mul_le_mul_left w hkN
      have hvk : v * k + v ≤ v * N := by rw [← Nat.mul_succ]; exact Nat.mul_le_mul_left v hkN
      have hget : ∀ R, (pre ++ ran G i N (b + L) w k :: R)[0]? = some (.inr (κ0, fs0)) := fun R => by
        rw [List.getElem?_append_left (List.getElem?_eq_some_iff.mp hpre).1]; exact hpre
      have hlen : (pre ++ ran G i N (b + L) w k :: (post ++ fillB F (b + L) w k)).length = L + w * k := by
        rw [← hL]
        simp only [List.length_append, List.length_cons, fb_len0 hFl]
        omega
      refine kb_iload_n C d0 rfl rfl ?_
      refine kb_aload_n C d1 rfl rfl ?_
      refine kb_get C κ0 0 kf hc0 hin0 hkf hlk0 hT0 (hget _) hfs0 d2 ?_
      refine kb_alen C ta i hi (x := (N, .inr (.inr (.inr (.inr (ranf (b + L) w k)))))) (by rw [← hta]; exact get_mid _ _ _) d5 ?_
      refine kb_icmp_ge C d6 (tgt := p0 + 28) (by omega) (fun h => absurd h (nI_ge hkN hN31)) (fun _ => ?_)
      refine kb_aload_n C d9 rfl rfl ?_
      refine kb_get C κ0 0 kf hc0 hin0 hkf hlk0 hT0 (hget _) hfs0 d10 ?_
      refine kb_iload_n C d13 rfl rfl ?_
      refine kb_new C κ ty0 (L + w * k) hcx hinx htyx hclx hinst hini (fs := fs) hfs hlen (by omega) (by omega) (by omega) d14 rfl ?_
      refine kb_dup C d17 ?_
      refine kb_call C (L + w * k) (E := pre ++ ran G i N (b + L) w k :: (post ++ fillB F (b + L) w k)) hs hlk e4 hcl hd' hlen rfl (by omega) (by omega) (by omega) rfl (by simp [Value.category]) d18 (M' := pre ++ ran G i N (b + L) w k :: (post ++ fillB F (b + L) w (k + 1))) (by
        show _ = pre ++ ran G i N (b + L) w k :: (post ++ (fillB F (b + L) w k ++ F (b + L + w * k)))
        rw [Nat.add_assoc b L (w * k)]
        simp only [List.append_assoc, List.cons_append]) ?_
      obtain ⟨fs', hfs'⟩ := hF0 (b + L + w * k)
      have hu : (pre ++ ran G i N (b + L) w k :: (post ++ fillB F (b + L) w (k + 1)))[L + w * k]? = some (.inr (κ, fs')) := by
        have e : pre ++ ran G i N (b + L) w k :: (post ++ fillB F (b + L) w (k + 1)) = (pre ++ ran G i N (b + L) w k :: (post ++ fillB F (b + L) w k)) ++ F (b + L + w * k) := by
          show pre ++ ran G i N (b + L) w k :: (post ++ (fillB F (b + L) w k ++ F (b + L + w * k))) = _
          simp only [List.append_assoc, List.cons_append]
        rw [e, List.getElem?_append_right (by rw [hlen]; exact Nat.le_refl _), hlen, Nat.sub_self]
        exact hfs'
      refine kb_aast C ta (L + w * k) κ i k N (r := (CX, TX, NX)) hi (by rw [← hta]; exact get_mid _ _ _) hu hcx hkN hN31 d21 (M' := pre ++ ran G i N (b + L) w (k + 1) :: (post ++ fillB F (b + L) w (k + 1))) (by
        rw [← Nat.add_assoc b L (w * k), ranf_up, ← hta]
        exact set_mid _ _ _ _) ?_
      refine kb_iinc C d22 rfl (v := nI (k + 1)) (by rw [nI_succ]; rfl) (lc1 := [some (.ref b), some (.int (nI (k + 1)))]) rfl ?_
      refine kb_goto C d25 (tgt := p0) (by omega) ?_
      refine kb_sum (c0 + w * (k + 1)) (n0 + v * (k + 1)) (by rw [Nat.mul_succ]; omega) (by rw [Nat.mul_succ]; omega) ?_
      exact ih (k + 1) (by omega)
  have := key N 0 (Nat.zero_add N)
  refine kb_eqM (M' := pre ++ ran G i N (b + L) w 0 :: (post ++ fillB F (b + L) w 0)) ?_ this
  show _ = pre ++ (Sum.inl (G.2.2.2 i, N, .inr (.inr (.inr (.inr (ranf (b + L) w 0))))) : va_E) :: (post ++ [])
  rw [List.append_nil, ← ranf_0]
def poM (G : Gm) (b : Nat) : List va_E := [.inr (8, [.ref (b + 1), .ref (b + 2), .ref (b + 3)]), zi G 60, zi G 60, zi G 60]
def txM (G : Gm) (b : Nat) : List va_E := [.inr (1, [.ref (b + 1), .int 0, .ref (b + 2), .int 0]), zc G, ran G 6 10 (b + 3) 1 10] ++ fillB (fun _ => [fd0]) (b + 3) 1 10
def mkM (G : Gm) (b : Nat) : List va_E := [.inr (5, [.ref (b + 1), .ref (b + 2), .ref (b + 3), .ref (b + 4), .int 0, .int 0, .int 0, .int 0, .int 0, .int 5]), ran G 2 8 (b + 5) 1 8, ran G 3 10 (b + 13) 1 10] ++ ran G 4 60 (b + 23) 1 60 :: ((([zi G 4] ++ fillB (fun _ => [iv0]) (b + 5) 1 8) ++ fillB (fun _ => [lo0]) (b + 13) 1 10) ++ fillB (fun _ => [no0]) (b + 23) 1 60)
theorem poM_len {G : Gm} {b : Nat} : (poM G b).length = 4 := rfl
theorem txM_len {G : Gm} {b : Nat} : (txM G b).length = 13 := by simp [txM, one_len]
theorem mkM_len {G : Gm} {b : Nat} : (mkM G b).length = 83 := by simp [mkM, one_len]
theorem fb_len {G : Gm} {a k : Nat} : (fillB (mkM G) a 83 k).length = 83 * k := fb_len0 (fun _ => mkM_len) a k
def hsM (G : Gm) (b : Nat) : List va_E := [.inr (2, [.ref (b + 1), .int 0]), ran G 5 4 (b + 2) 83 4] ++ fillB (mkM G) (b + 2) 83 4
theorem hsM_len {G : Gm} {b : Nat} : (hsM G b).length = 334 := by simp [hsM, fb_len]
def pnM (G : Gm) (b : Nat) : List va_E := .inr (9, [.ref (b + 1), .ref (b + 84), .ref (b + 167), .int 0, .ref (b + 250), .ref (b + 584), .ref (b + 597), .ref (b + 598)]) :: ((((((mkM G (b + 1) ++ mkM G (b + 84)) ++ mkM G (b + 167)) ++ hsM G (b + 250)) ++ txM G (b + 584)) ++ [pt0]) ++ poM G (b + 598))
def moM (G : Gm) (b : Nat) : List va_E := [.inr (10, [.int 0, .ref (b + 1), .ref (b + 2), .ref (b + 3), .int 0, .ref (b + 4), .int 0, .ref (b + 5), .int 0, .int 0, .ref (b + 6), .ref (b + 7), .int 0, .int 0, .ref (b + 8)]), mn5 G, zi G 564, zi G 564, zi G 2256, zi G 60, zi G 60, zi G 60, zi G 64]

set_option maxRecDepth 20000 in
set_option maxHeartbeats 4000000 in
theorem k_X0 (G : Gm) : Clk G 1 0 0 m_X0_init fd0 (fun _ => [fd0]) := by
  refine Clk.mk (cc := cX0_init) (own := RX0) (nL := 1) rfl rfl rfl rfl (by decide) rfl (by decide) (fun X b C hnm hz => ?_)
  have hO := C.2.1
  show Vb X G _ b [fd0] 0 0 0 [some (.ref b)] []
  refine kb_aload_n C dX0_init_0 rfl rfl ?_
  refine kb_obj C wl_X0_1 wo_1 wo_2 rfl (by decide) (Nat.le_of_ble_eq_true rfl) dX0_init_1 ?_
  exact kb_ret C dX0_init_4 rfl rfl rfl
set_option maxRecDepth 20000 in
set_option maxHeartbeats 4000000 in
theorem k_X3 (G : Gm) : Clk G 1 0 0 m_X3_init iv0 (fun _ => [iv0]) := by
  refine Clk.mk (cc := cX3_init) (own := RX3) (nL := 1) rfl rfl rfl rfl (by decide) rfl (by decide) (fun X b C hnm hz => ?_)
  have hO := C.2.1
  show Vb X G _ b [iv0] 0 0 0 [some (.ref b)] []
  refine kb_aload_n C dX3_init_0 rfl rfl ?_
  refine kb_obj C wl_X3_1 wo_1 wo_2 rfl (by decide) (Nat.le_of_ble_eq_true rfl) dX3_init_1 ?_
  exact kb_ret C dX3_init_4 rfl rfl rfl
set_option maxRecDepth 20000 in
set_option maxHeartbeats 4000000 in
theorem k_X4 (G : Gm) : Clk G 1 0 0 m_X4_init lo0 (fun _ => [lo0]) := by
  refine Clk.mk (cc := cX4_init) (own := RX4) (nL := 1) rfl rfl rfl rfl (by decide) rfl (by decide) (fun X b C hnm hz => ?_)
  have hO := C.2.1
  show Vb X G _ b [lo0] 0 0 0 [some (.ref b)] []
  refine kb_aload_n C dX4_init_0 rfl rfl ?_
  refine kb_obj C wl_X4_3 wo_1 wo_2 rfl (by decide) (Nat.le_of_ble_eq_true rfl) dX4_init_1 ?_
  exact kb_ret C dX4_init_4 rfl rfl rfl
set_option maxRecDepth 20000 in
set_option maxHeartbeats 4000000 in
theorem k_X6 (G : Gm) : Clk G 1 0 0 m_X6_init no0 (fun _ => [no0]) := by
  refine Clk.mk (cc := cX6_init) (own := RX6) (nL := 1) rfl rfl rfl rfl (by decide) rfl (by decide) (fun X b C hnm hz => ?_)
  have hO := C.2.1
  show Vb X G _ b [no0] 0 0 0 [some (.ref b)] []
  refine kb_aload_n C dX6_init_0 rfl rfl ?_
  refine kb_obj C wl_X6_1 wo_1 wo_2 rfl (by decide) (Nat.le_of_ble_eq_true rfl) dX6_init_1 ?_
  exact kb_ret C dX6_init_4 rfl rfl rfl
set_option maxRecDepth 20000 in
set_option maxHeartbeats 4000000 in
theorem k_X7 (G : Gm) : Clk G 1 0 0 m_X7_init pt0 (fun _ => [pt0]) := by
  refine Clk.mk (cc := cX7_init) (own := RX7) (nL := 1) rfl rfl rfl rfl (by decide) rfl (by decide) (fun X b C hnm hz => ?_)
  have hO := C.2.1
  show Vb X G _ b [pt0] 0 0 0 [some (.ref b)] []
  refine kb_aload_n C dX7_init_0 rfl rfl ?_
  refine kb_obj C wl_X7_3 wo_1 wo_2 rfl (by decide) (Nat.le_of_ble_eq_true rfl) dX7_init_1 ?_
  exact kb_ret C dX7_init_4 rfl rfl rfl
set_option maxRecDepth 20000 in
set_option maxHeartbeats 4000000 in
theorem k_X8 (G : Gm) : Clk G 1 3 180 m_X8_init po0 (poM G) := by
  refine Clk.mk (cc := cX8_init) (own := RX8) (nL := 1) rfl rfl rfl rfl (by decide) rfl (by decide) (fun X b C hnm hz => ?_)
  have hO := C.2.1
  show Vb X G _ b [po0] 0 0 0 [some (.ref b)] []
  refine kb_aload_n C dX8_init_0 rfl rfl ?_
  refine kb_obj C wl_X8_3 wo_1 wo_2 rfl (by decide) (Nat.le_of_ble_eq_true rfl) dX8_init_1 ?_
  refine kb_aload_n C dX8_init_4 rfl rfl ?_
  refine kb_bipush C (v := nI 60) dX8_init_5 (by decide +kernel) ?_
  refine kb_newa C 0 60 1 (atype := .int) (ty := .int) rfl wr_int rfl rfl (by decide) (by decide) rfl (by omega) (by decide) (by decide) dX8_init_7 (M' := (.inr (8, [.null, .null, .null]) :: [zi G 60])) rfl ?_
  refine kb_sum 1 60 rfl rfl ?_
  refine kb_putF C hnm 8 0 0 tyX8 rfl inA8 tyX8_ok nmX8 (by decide) wf_X8_9 rfl rfl rfl (tyX8_ok 0 (by decide)) rfl rfl rfl (Nat.le_of_ble_eq_true rfl) dX8_init_9 (M' := (.inr (8, [.ref (b + 1), .null, .null]) :: [zi G 60])) rfl ?_
  refine kb_aload_n C dX8_init_12 rfl rfl ?_
  refine kb_bipush C (v := nI 60) dX8_init_13 (by decide +kernel) ?_
  refine kb_newa C 0 60 2 (atype := .int) (ty := .int) rfl wr_int rfl rfl (by decide) (by decide) rfl (by omega) (by decide) (by decide) dX8_init_15 (M' := (.inr (8, [.ref (b + 1), .null, .null]) :: ([zi G 60] ++ [zi G 60]))) rfl ?_
  refine kb_sum 2 120 rfl rfl ?_
  refine kb_putF C hnm 8 0 1 tyX8 rfl inA8 tyX8_ok nmX8 (by decide) wf_X8_15 rfl rfl rfl (tyX8_ok 1 (by decide)) rfl rfl rfl (Nat.le_of_ble_eq_true rfl) dX8_init_17 (M' := (.inr (8, [.ref (b + 1), .ref (b + 2), .null]) :: ([zi G 60] ++ [zi G 60]))) rfl ?_
  refine kb_aload_n C dX8_init_20 rfl rfl ?_
  refine kb_bipush C (v := nI 60) dX8_init_21 (by decide +kernel) ?_
  refine kb_newa C 0 60 3 (atype := .int) (ty := .int) rfl wr_int rfl rfl (by decide) (by decide) rfl (by omega) (by decide) (by decide) dX8_init_23 (M' := (.inr (8, [.ref (b + 1), .ref (b + 2), .null]) :: (([zi G 60] ++ [zi G 60]) ++ [zi G 60]))) rfl ?_
  refine kb_sum 3 180 rfl rfl ?_
  refine kb_putF C hnm 8 0 2 tyX8 rfl inA8 tyX8_ok nmX8 (by decide) wf_X8_18 rfl rfl rfl (tyX8_ok 2 (by decide)) rfl rfl rfl (Nat.le_of_ble_eq_true rfl) dX8_init_25 (M' := (.inr (8, [.ref (b + 1), .ref (b + 2), .ref (b + 3)]) :: (([zi G 60] ++ [zi G 60]) ++ [zi G 60]))) rfl ?_
  exact kb_ret C dX8_init_28 rfl rfl rfl
set_option maxRecDepth 20000 in
set_option maxHeartbeats 4000000 in
theorem k_X1 (G : Gm) : Clk G 2 12 110 m_X1_init tx0 (txM G) := by
  refine Clk.mk (cc := cX1_init) (own := RX1) (nL := 2) rfl rfl rfl rfl (by decide) rfl (by decide) (fun X b C hnm hz => ?_)
  have hO := C.2.1
  show Vb X G _ b [tx0] 0 0 0 [some (.ref b), none] []
  refine kb_aload_n C dX1_init_0 rfl rfl ?_
  refine kb_obj C wl_X1_3 wo_1 wo_2 rfl (by decide) (Nat.le_of_ble_eq_true rfl) dX1_init_1 ?_
  refine kb_aload_n C dX1_init_4 rfl rfl ?_
  refine kb_bipush C (v := nI 60) dX1_init_5 (by decide +kernel) ?_
  refine kb_newa C 1 60 1 (atype := .char) (ty := .char) rfl wr_char rfl rfl (by decide) (by decide) rfl (by omega) (by decide) (by decide) dX1_init_7 (M' := (.inr (1, [.null, .int 0, .null, .int 0]) :: [zc G])) rfl ?_
  refine kb_sum 1 60 rfl rfl ?_
  refine kb_putF C hnm 1 0 0 tyX1 rfl inA1 tyX1_ok nmX1 (by decide) wf_X1_9 rfl rfl rfl (tyX1_ok 0 (by decide)) rfl rfl rfl (Nat.le_of_ble_eq_true rfl) dX1_init_9 (M' := (.inr (1, [.ref (b + 1), .int 0, .null, .int 0]) :: [zc G])) rfl ?_
  refine kb_aload_n C dX1_init_12 rfl rfl ?_
  refine kb_iconst C (v := 0) dX1_init_13 ki_0 ?_
  refine kb_put C 1 0 1 tyX1 rfl inA1 tyX1_ok nmX1 (by decide) wf_X1_15 rfl rfl (tyX1_ok 1 (by decide)) rfl rfl rfl (Nat.le_of_ble_eq_true rfl) dX1_init_14 (M' := (.inr (1, [.ref (b + 1), .int 0, .null, .int 0]) :: [zc G])) rfl ?_
  refine kb_aload_n C dX1_init_17 rfl rfl ?_
  refine kb_bipush C (v := nI 10) dX1_init_18 (by decide +kernel) ?_
  refine kb_anew C 6 10 2 wc_X1_19 hO.1 rfl (by decide) (by decide) rfl (by omega) (by decide) (by decide) dX1_init_20 (M' := (.inr (1, [.ref (b + 1), .int 0, .null, .int 0]) :: ([zc G] ++ [ra0 G 6 10]))) rfl ?_
  refine kb_sum 2 70 rfl rfl ?_
  refine kb_putF C hnm 1 0 2 tyX1 rfl inA1 tyX1_ok nmX1 (by decide) wf_X1_21 rfl rfl rfl (tyX1_ok 2 (by decide)) rfl rfl rfl (Nat.le_of_ble_eq_true rfl) dX1_init_23 (M' := (.inr (1, [.ref (b + 1), .int 0, .ref (b + 2), .int 0]) :: ([zc G] ++ [ra0 G 6 10]))) rfl ?_
  refine kb_aload_n C dX1_init_26 rfl rfl ?_
  refine kb_iconst C (v := 0) dX1_init_27 ki_0 ?_
  refine kb_put C 1 0 3 tyX1 rfl inA1 tyX1_ok nmX1 (by decide) wf_X1_25 rfl rfl (tyX1_ok 3 (by decide)) rfl rfl rfl (Nat.le_of_ble_eq_true rfl) dX1_init_28 (M' := (.inr (1, [.ref (b + 1), .int 0, .ref (b + 2), .int 0]) :: ([zc G] ++ [ra0 G 6 10]))) rfl ?_
  refine kb_iconst C (v := nI 0) dX1_init_31 (by decide +kernel) ?_
  refine kb_istore_n C dX1_init_32 rfl (Nat.le_of_ble_eq_true rfl) (lc1 := [some (.ref b), some (.int (nI 0))]) rfl ?_
  refine kb_fill C 1 2 2 6 0 10 3 (pre := [.inr (1, [.ref (b + 1), .int 0, .ref (b + 2), .int 0]), zc G]) (post := []) (w := 1) (v := 4) rfl inA1 (by decide) wf_X1_21 rfl rfl tyX0 rfl rfl inA0 tyX0_ok wc_X1_19 wi_X0 wn_X0 (fs := [.int 0, .int 0, .int 0, .int 0]) (by decide) si_X0_init wl_X1_28 rfl (F := fun _ => [fd0]) (k_X0 G) (by decide) (fun _ => ⟨_, rfl⟩) (fun _ => rfl) rfl rfl rfl rfl rfl (by simp [List.length_append, fb_len, one_len]) (by omega) (by decide) (by decide) (by decide) dX1_init_33 dX1_init_34 dX1_init_35 dX1_init_38 dX1_init_39 dX1_init_42 dX1_init_43 dX1_init_46 dX1_init_47 dX1_init_50 dX1_init_51 dX1_init_54 dX1_init_55 dX1_init_58 ?_
  refine kb_sum 12 110 rfl rfl ?_
  exact kb_ret C dX1_init_61 rfl rfl rfl

set_option maxRecDepth 20000 in
set_option maxHeartbeats 4000000 in
theorem k_X5 (G : Gm) : Clk G 2 82 636 m_X5_init mk0 (mkM G) := by
  refine Clk.mk (cc := cX5_init) (own := RX5) (nL := 2) rfl rfl rfl rfl (by decide) rfl (by decide) (fun X b C hnm hz => ?_)
  have hO := C.2.1
  show Vb X G _ b [mk0] 0 0 0 [some (.ref b), none] []
  refine kb_aload_n C dX5_init_0 rfl rfl ?_
  refine kb_obj C wl_X5_3 wo_1 wo_2 rfl (by decide) (Nat.le_of_ble_eq_true rfl) dX5_init_1 ?_
  refine kb_aload_n C dX5_init_4 rfl rfl ?_
  refine kb_bipush C (v := nI 8) dX5_init_5 (by decide +kernel) ?_
  refine kb_anew C 2 8 1 wc_X5_9 hO.2.1 rfl (by decide) (by decide) rfl (by omega) (by decide) (by decide) dX5_init_7 (M' := (.inr (5, [.null, .null, .null, .null, .int 0, .int 0, .int 0, .int 0, .int 0, .int 0]) :: [ra0 G 2 8])) rfl ?_
  refine kb_sum 1 8 rfl rfl ?_
  refine kb_putF C hnm 5 0 0 tyX5 rfl inA5 tyX5_ok nmX5 (by decide) wf_X5_11 rfl rfl rfl (tyX5_ok 0 (by decide)) rfl rfl rfl (Nat.le_of_ble_eq_true rfl) dX5_init_10 (M' := (.inr (5, [.ref (b + 1), .null, .null, .null, .int 0, .int 0, .int 0, .int 0, .int 0, .int 0]) :: [ra0 G 2 8])) rfl ?_
  refine kb_aload_n C dX5_init_13 rfl rfl ?_
  refine kb_bipush C (v := nI 10) dX5_init_14 (by decide +kernel) ?_
  refine kb_anew C 3 10 2 wc_X5_17 hO.2.2.1 rfl (by decide) (by decide) rfl (by omega) (by decide) (by decide) dX5_init_16 (M' := (.inr (5, [.ref (b + 1), .null, .null, .null, .int 0, .int 0, .int 0, .int 0, .int 0, .int 0]) :: ([ra0 G 2 8] ++ [ra0 G 3 10]))) rfl ?_
  refine kb_sum 2 18 rfl rfl ?_
  refine kb_putF C hnm 5 0 1 tyX5 rfl inA5 tyX5_ok nmX5 (by decide) wf_X5_19 rfl rfl rfl (tyX5_ok 1 (by decide)) rfl rfl rfl (Nat.le_of_ble_eq_true rfl) dX5_init_19 (M' := (.inr (5, [.ref (b + 1), .ref (b + 2), .null, .null, .int 0, .int 0, .int 0, .int 0, .int 0, .int 0]) :: ([ra0 G 2 8] ++ [ra0 G 3 10]))) rfl ?_
  refine kb_aload_n C dX5_init_22 rfl rfl ?_
  refine kb_bipush C (v := nI 60) dX5_init_23 (by decide +kernel) ?_
  refine kb_anew C 4 60 3 wc_X5_23 hO.2.2.2.2 rfl (by decide) (by decide) rfl (by omega) (by decide) (by decide) dX5_init_25 (M' := (.inr (5, [.ref (b + 1), .ref (b + 2), .null, .null, .int 0, .int 0, .int 0, .int 0, .int 0, .int 0]) :: (([ra0 G 2 8] ++ [ra0 G 3 10]) ++ [ra0 G 4 60]))) rfl ?_
  refine kb_sum 3 78 rfl rfl ?_
  refine kb_putF C hnm 5 0 2 tyX5 rfl inA5 tyX5_ok nmX5 (by decide) wf_X5_25 rfl rfl rfl (tyX5_ok 2 (by decide)) rfl rfl rfl (Nat.le_of_ble_eq_true rfl) dX5_init_28 (M' := (.inr (5, [.ref (b + 1), .ref (b + 2), .ref (b + 3), .null, .int 0, .int 0, .int 0, .int 0, .int 0, .int 0]) :: (([ra0 G 2 8] ++ [ra0 G 3 10]) ++ [ra0 G 4 60]))) rfl ?_
  refine kb_aload_n C dX5_init_31 rfl rfl ?_
  refine kb_fees C rfl dX5_init_32 ?_
  refine kb_feelen C dX5_init_35 ?_
  refine kb_newa C 0 4 4 (atype := .int) (ty := .int) rfl wr_int rfl rfl (by decide) (by decide) rfl (by omega) (by decide) (by decide) dX5_init_36 (M' := (.inr (5, [.ref (b + 1), .ref (b + 2), .ref (b + 3), .null, .int 0, .int 0, .int 0, .int 0, .int 0, .int 0]) :: ((([ra0 G 2 8] ++ [ra0 G 3 10]) ++ [ra0 G 4 60]) ++ [zi G 4]))) rfl ?_
  refine kb_sum 4 82 rfl rfl ?_
  refine kb_putF C hnm 5 0 3 tyX5 rfl inA5 tyX5_ok nmX5 (by decide) wf_X5_33 rfl rfl rfl (tyX5_ok 3 (by decide)) rfl rfl rfl (Nat.le_of_ble_eq_true rfl) dX5_init_38 (M' := (.inr (5, [.ref (b + 1), .ref (b + 2), .ref (b + 3), .ref (b + 4), .int 0, .int 0, .int 0, .int 0, .int 0, .int 0]) :: ((([ra0 G 2 8] ++ [ra0 G 3 10]) ++ [ra0 G 4 60]) ++ [zi G 4]))) rfl ?_
  refine kb_aload_n C dX5_init_41 rfl rfl ?_
  refine kb_iconst C (v := 0) dX5_init_42 ki_0 ?_
  refine kb_put C 5 0 4 tyX5 rfl inA5 tyX5_ok nmX5 (by decide) wf_X5_36 rfl rfl (tyX5_ok 4 (by decide)) rfl rfl rfl (Nat.le_of_ble_eq_true rfl) dX5_init_43 (M' := (.inr (5, [.ref (b + 1), .ref (b + 2), .ref (b + 3), .ref (b + 4), .int 0, .int 0, .int 0, .int 0, .int 0, .int 0]) :: ((([ra0 G 2 8] ++ [ra0 G 3 10]) ++ [ra0 G 4 60]) ++ [zi G 4]))) rfl ?_
  refine kb_aload_n C dX5_init_46 rfl rfl ?_
  refine kb_iconst C (v := 0) dX5_init_47 ki_0 ?_
  refine kb_put C 5 0 5 tyX5 rfl inA5 tyX5_ok nmX5 (by decide) wf_X5_40 rfl rfl (tyX5_ok 5 (by decide)) rfl rfl rfl (Nat.le_of_ble_eq_true rfl) dX5_init_48 (M' := (.inr (5, [.ref (b + 1), .ref (b + 2), .ref (b + 3), .ref (b + 4), .int 0, .int 0, .int 0, .int 0, .int 0, .int 0]) :: ((([ra0 G 2 8] ++ [ra0 G 3 10]) ++ [ra0 G 4 60]) ++ [zi G 4]))) rfl ?_
  refine kb_aload_n C dX5_init_51 rfl rfl ?_
  refine kb_iconst C (v := 0) dX5_init_52 ki_0 ?_
  refine kb_put C 5 0 6 tyX5 rfl inA5 tyX5_ok nmX5 (by decide) wf_X5_43 rfl rfl (tyX5_ok 6 (by decide)) rfl rfl rfl (Nat.le_of_ble_eq_true rfl) dX5_init_53 (M' := (.inr (5, [.ref (b + 1), .ref (b + 2), .ref (b + 3), .ref (b + 4), .int 0, .int 0, .int 0, .int 0, .int 0, .int 0]) :: ((([ra0 G 2 8] ++ [ra0 G 3 10]) ++ [ra0 G 4 60]) ++ [zi G 4]))) rfl ?_
  refine kb_aload_n C dX5_init_56 rfl rfl ?_
  refine kb_iconst C (v := 0) dX5_init_57 ki_0 ?_
  refine kb_put C 5 0 7 tyX5 rfl inA5 tyX5_ok nmX5 (by decide) wf_X5_46 rfl rfl (tyX5_ok 7 (by decide)) rfl rfl rfl (Nat.le_of_ble_eq_true rfl) dX5_init_58 (M' := (.inr (5, [.ref (b + 1), .ref (b + 2), .ref (b + 3), .ref (b + 4), .int 0, .int 0, .int 0, .int 0, .int 0, .int 0]) :: ((([ra0 G 2 8] ++ [ra0 G 3 10]) ++ [ra0 G 4 60]) ++ [zi G 4]))) rfl ?_
  refine kb_aload_n C dX5_init_61 rfl rfl ?_
  refine kb_iconst C (v := 0) dX5_init_62 ki_0 ?_
  refine kb_put C 5 0 8 tyX5 rfl inA5 tyX5_ok nmX5 (by decide) wf_X5_49 rfl rfl (tyX5_ok 8 (by decide)) rfl rfl rfl (Nat.le_of_ble_eq_true rfl) dX5_init_63 (M' := (.inr (5, [.ref (b + 1), .ref (b + 2), .ref (b + 3), .ref (b + 4), .int 0, .int 0, .int 0, .int 0, .int 0, .int 0]) :: ((([ra0 G 2 8] ++ [ra0 G 3 10]) ++ [ra0 G 4 60]) ++ [zi G 4]))) rfl ?_
  refine kb_aload_n C dX5_init_66 rfl rfl ?_
  refine kb_iconst C (v := 5) dX5_init_67 ki_5 ?_
  refine kb_put C 5 0 9 tyX5 rfl inA5 tyX5_ok nmX5 (by decide) wf_X5_52 rfl rfl (tyX5_ok 9 (by decide)) rfl rfl rfl (Nat.le_of_ble_eq_true rfl) dX5_init_68 (M' := (.inr (5, [.ref (b + 1), .ref (b + 2), .ref (b + 3), .ref (b + 4), .int 0, .int 0, .int 0, .int 0, .int 0, .int 5]) :: ((([ra0 G 2 8] ++ [ra0 G 3 10]) ++ [ra0 G 4 60]) ++ [zi G 4]))) rfl ?_
  refine kb_iconst C (v := nI 0) dX5_init_71 (by decide +kernel) ?_
  refine kb_istore_n C dX5_init_72 rfl (Nat.le_of_ble_eq_true rfl) (lc1 := [some (.ref b), some (.int (nI 0))]) rfl ?_
  refine kb_fill C 5 0 1 2 3 8 5 (pre := [.inr (5, [.ref (b + 1), .ref (b + 2), .ref (b + 3), .ref (b + 4), .int 0, .int 0, .int 0, .int 0, .int 0, .int 5])]) (post := [ra0 G 3 10, ra0 G 4 60, zi G 4]) (w := 1) (v := 3) rfl inA5 (by decide) wf_X5_11 rfl rfl tyX3 rfl rfl inA3 tyX3_ok wc_X5_9 wi_X3 wn_X3 (fs := [.int 0, .int 0, .int 0]) (by decide) si_X3_init wl_X5_55 rfl (F := fun _ => [iv0]) (k_X3 G) (by decide) (fun _ => ⟨_, rfl⟩) (fun _ => rfl) rfl rfl rfl rfl rfl (by simp [List.length_append, fb_len, one_len]) (by omega) (by decide) (by decide) (by decide) dX5_init_73 dX5_init_74 dX5_init_75 dX5_init_78 dX5_init_79 dX5_init_82 dX5_init_83 dX5_init_86 dX5_init_87 dX5_init_90 dX5_init_91 dX5_init_94 dX5_init_95 dX5_init_98 ?_
  refine kb_sum 12 106 rfl rfl ?_
  refine kb_iconst C (v := nI 0) dX5_init_101 (by decide +kernel) ?_
  refine kb_istore_n C dX5_init_102 rfl (Nat.le_of_ble_eq_true rfl) (lc1 := [some (.ref b), some (.int (nI 0))]) rfl ?_
  refine kb_fill C 5 1 2 3 4 10 13 (pre := [.inr (5, [.ref (b + 1), .ref (b + 2), .ref (b + 3), .ref (b + 4), .int 0, .int 0, .int 0, .int 0, .int 0, .int 5]), ran G 2 8 (b + 5) 1 8]) (post := ([ra0 G 4 60, zi G 4] ++ fillB (fun _ => [iv0]) (b + 5) 1 8)) (w := 1) (v := 11) rfl inA5 (by decide) wf_X5_19 rfl rfl tyX4 rfl rfl inA4 tyX4_ok wc_X5_17 wi_X4 wn_X4 (fs := [.int 0, .int 0, .int 0, .int 0, .int 0, .int 0, .int 0, .int 0, .int 0, .int 0, .int 0]) (by decide) si_X4_init wl_X5_56 rfl (F := fun _ => [lo0]) (k_X4 G) (by decide) (fun _ => ⟨_, rfl⟩) (fun _ => rfl) rfl rfl rfl rfl rfl (by simp [List.length_append, fb_len, one_len]) (by omega) (by decide) (by decide) (by decide) dX5_init_103 dX5_init_104 dX5_init_105 dX5_init_108 dX5_init_109 dX5_init_112 dX5_init_113 dX5_init_116 dX5_init_117 dX5_init_120 dX5_init_121 dX5_init_124 dX5_init_125 dX5_init_128 ?_
  refine kb_sum 22 216 rfl rfl ?_
  refine kb_iconst C (v := nI 0) dX5_init_131 (by decide +kernel) ?_
  refine kb_istore_n C dX5_init_132 rfl (Nat.le_of_ble_eq_true rfl) (lc1 := [some (.ref b), some (.int (nI 0))]) rfl ?_
  refine kb_fill C 5 2 3 4 6 60 23 (pre := [.inr (5, [.ref (b + 1), .ref (b + 2), .ref (b + 3), .ref (b + 4), .int 0, .int 0, .int 0, .int 0, .int 0, .int 5]), ran G 2 8 (b + 5) 1 8, ran G 3 10 (b + 13) 1 10]) (post := (([zi G 4] ++ fillB (fun _ => [iv0]) (b + 5) 1 8) ++ fillB (fun _ => [lo0]) (b + 13) 1 10)) (w := 1) (v := 7) rfl inA5 (by decide) wf_X5_25 rfl rfl tyX6 rfl rfl inA6 tyX6_ok wc_X5_23 wi_X6 wn_X6 (fs := [.int 0, .int 0, .int 0, .int 0, .int 0, .int 0, .int 0]) (by decide) si_X6_init wl_X5_57 rfl (F := fun _ => [no0]) (k_X6 G) (by decide) (fun _ => ⟨_, rfl⟩) (fun _ => rfl) rfl rfl rfl rfl rfl (by simp [List.length_append, fb_len, one_len]) (by omega) (by decide) (by decide) (by decide) dX5_init_133 dX5_init_134 dX5_init_135 dX5_init_138 dX5_init_139 dX5_init_142 dX5_init_143 dX5_init_146 dX5_init_147 dX5_init_150 dX5_init_151 dX5_init_154 dX5_init_155 dX5_init_158 ?_
  refine kb_sum 82 636 rfl rfl ?_
  exact kb_ret C dX5_init_161 rfl rfl rfl
set_option maxRecDepth 20000 in
set_option maxHeartbeats 4000000 in
theorem k_X2 (G : Gm) : Clk G 3 333 2588 m_X2_init hs0 (hsM G) := by
  refine Clk.mk (cc := cX2_init) (own := RX2) (nL := 2) rfl rfl rfl rfl (by decide) rfl (by decide) (fun X b C hnm hz => ?_)
  have hO := C.2.1
  show Vb X G _ b [hs0] 0 0 0 [some (.ref b), none] []
  refine kb_aload_n C dX2_init_0 rfl rfl ?_
  refine kb_obj C wl_X2_3 wo_1 wo_2 rfl (by decide) (Nat.le_of_ble_eq_true rfl) dX2_init_1 ?_
  refine kb_aload_n C dX2_init_4 rfl rfl ?_
  refine kb_iconst C (v := nI 4) dX2_init_5 (by decide +kernel) ?_
  refine kb_anew C 5 4 1 wc_X2_9 hO.2.2.2.1 rfl (by decide) (by decide) rfl (by omega) (by decide) (by decide) dX2_init_6 (M' := (.inr (2, [.null, .int 0]) :: [ra0 G 5 4])) rfl ?_
  refine kb_sum 1 4 rfl rfl ?_
  refine kb_putF C hnm 2 0 0 tyX2 rfl inA2 tyX2_ok nmX2 (by decide) wf_X2_11 rfl rfl rfl (tyX2_ok 0 (by decide)) rfl rfl rfl (Nat.le_of_ble_eq_true rfl) dX2_init_9 (M' := (.inr (2, [.ref (b + 1), .int 0]) :: [ra0 G 5 4])) rfl ?_
  refine kb_aload_n C dX2_init_12 rfl rfl ?_
  refine kb_iconst C (v := 0) dX2_init_13 ki_0 ?_
  refine kb_put C 2 0 1 tyX2 rfl inA2 tyX2_ok nmX2 (by decide) wf_X2_17 rfl rfl (tyX2_ok 1 (by decide)) rfl rfl rfl (Nat.le_of_ble_eq_true rfl) dX2_init_14 (M' := (.inr (2, [.ref (b + 1), .int 0]) :: [ra0 G 5 4])) rfl ?_
  refine kb_iconst C (v := nI 0) dX2_init_17 (by decide +kernel) ?_
  refine kb_istore_n C dX2_init_18 rfl (Nat.le_of_ble_eq_true rfl) (lc1 := [some (.ref b), some (.int (nI 0))]) rfl ?_
  refine kb_fill C 2 0 1 5 5 4 2 (pre := [.inr (2, [.ref (b + 1), .int 0])]) (post := []) (w := 83) (v := 646) rfl inA2 (by decide) wf_X2_11 rfl rfl tyX5 rfl rfl inA5 tyX5_ok wc_X2_9 wi_X5 wn_X5 (fs := [.null, .null, .null, .null, .int 0, .int 0, .int 0, .int 0, .int 0, .int 0]) (by decide) si_X5_init wl_X2_21 rfl (F := mkM G) (k_X5 G) (by decide) (fun _ => ⟨_, rfl⟩) (fun _ => mkM_len) rfl rfl rfl rfl rfl (by simp [List.length_append, fb_len, one_len]) (by omega) (by decide) (by decide) (by decide) dX2_init_19 dX2_init_20 dX2_init_21 dX2_init_24 dX2_init_25 dX2_init_28 dX2_init_29 dX2_init_32 dX2_init_33 dX2_init_36 dX2_init_37 dX2_init_40 dX2_init_41 dX2_init_44 ?_
  refine kb_sum 333 2588 rfl rfl ?_
  exact kb_ret C dX2_init_47 rfl rfl rfl
set_option maxRecDepth 20000 in
set_option maxHeartbeats 4000000 in
theorem k_X9 (G : Gm) : Clk G 4 601 4831 m_X9_init pn0 (pnM G) := by
  refine Clk.mk (cc := cX9_init) (own := RX9) (nL := 1) rfl rfl rfl rfl (by decide) rfl (by decide) (fun X b C hnm hz => ?_)
  have hO := C.2.1
  show Vb X G _ b [pn0] 0 0 0 [some (.ref b)] []
  refine kb_aload_n C dX9_init_0 rfl rfl ?_
  refine kb_obj C wl_X9_1 wo_1 wo_2 rfl (by decide) (Nat.le_of_ble_eq_true rfl) dX9_init_1 ?_
  refine kb_aload_n C dX9_init_4 rfl rfl ?_
  refine kb_new C 5 tyX5 1 rfl inA5 tyX5_ok wc_X9_7 wi_X5 wn_X5 (fs := [.null, .null, .null, .null, .int 0, .int 0, .int 0, .int 0, .int 0, .int 0]) (by decide) (by simp [List.length_append, mkM_len, hsM_len, txM_len, poM_len]) (by omega) (by decide) (by decide) dX9_init_5 (M' := (.inr (9, [.null, .null, .null, .int 0, .null, .null, .null, .null]) :: [mk0])) rfl ?_
  refine kb_sum 1 10 rfl rfl ?_
  refine kb_dup C dX9_init_8 ?_
  refine kb_call C 1 (E := (.inr (9, [.null, .null, .null, .int 0, .null, .null, .null, .null]) :: [])) si_X5_init wl_X9_9 rfl (k_X5 G) (by decide) (by simp [List.length_append, mkM_len, hsM_len, txM_len, poM_len]) rfl (by omega) (by decide) (by decide) rfl (Nat.le_of_ble_eq_true rfl) dX9_init_9 (M' := (.inr (9, [.null, .null, .null, .int 0, .null, .null, .null, .null]) :: mkM G (b + 1))) rfl ?_
  refine kb_sum 83 646 rfl rfl ?_
  refine kb_putF C hnm 9 0 0 tyX9 rfl inA9 tyX9_ok nmX9 (by decide) wf_X9_10 rfl rfl rfl (tyX9_ok 0 (by decide)) rfl rfl rfl (Nat.le_of_ble_eq_true rfl) dX9_init_12 (M' := (.inr (9, [.ref (b + 1), .null, .null, .int 0, .null, .null, .null, .null]) :: mkM G (b + 1))) rfl ?_
  refine kb_aload_n C dX9_init_15 rfl rfl ?_
  refine kb_new C 5 tyX5 84 rfl inA5 tyX5_ok wc_X9_7 wi_X5 wn_X5 (fs := [.null, .null, .null, .null, .int 0, .int 0, .int 0, .int 0, .int 0, .int 0]) (by decide) (by simp [List.length_append, mkM_len, hsM_len, txM_len, poM_len]) (by omega) (by decide) (by decide) dX9_init_16 (M' := (.inr (9, [.ref (b + 1), .null, .null, .int 0, .null, .null, .null, .null]) :: (mkM G (b + 1) ++ [mk0]))) rfl ?_
  refine kb_sum 84 656 rfl rfl ?_
  refine kb_dup C dX9_init_19 ?_
  refine kb_call C 84 (E := (.inr (9, [.ref (b + 1), .null, .null, .int 0, .null, .null, .null, .null]) :: mkM G (b + 1))) si_X5_init wl_X9_9 rfl (k_X5 G) (by decide) (by simp [List.length_append, mkM_len, hsM_len, txM_len, poM_len]) rfl (by omega) (by decide) (by decide) rfl (Nat.le_of_ble_eq_true rfl) dX9_init_20 (M' := (.inr (9, [.ref (b + 1), .null, .null, .int 0, .null, .null, .null, .null]) :: (mkM G (b + 1) ++ mkM G (b + 84)))) rfl ?_
  refine kb_sum 166 1292 rfl rfl ?_
  refine kb_putF C hnm 9 0 1 tyX9 rfl inA9 tyX9_ok nmX9 (by decide) wf_X9_16 rfl rfl rfl (tyX9_ok 1 (by decide)) rfl rfl rfl (Nat.le_of_ble_eq_true rfl) dX9_init_23 (M' := (.inr (9, [.ref (b + 1), .ref (b + 84), .null, .int 0, .null, .null, .null, .null]) :: (mkM G (b + 1) ++ mkM G (b + 84)))) rfl ?_
  refine kb_aload_n C dX9_init_26 rfl rfl ?_
  refine kb_new C 5 tyX5 167 rfl inA5 tyX5_ok wc_X9_7 wi_X5 wn_X5 (fs := [.null, .null, .null, .null, .int 0, .int 0, .int 0, .int 0, .int 0, .int 0]) (by decide) (by simp [List.length_append, mkM_len, hsM_len, txM_len, poM_len]) (by omega) (by decide) (by decide) dX9_init_27 (M' := (.inr (9, [.ref (b + 1), .ref (b + 84), .null, .int 0, .null, .null, .null, .null]) :: ((mkM G (b + 1) ++ mkM G (b + 84)) ++ [mk0]))) rfl ?_
  refine kb_sum 167 1302 rfl rfl ?_
  refine kb_dup C dX9_init_30 ?_
  refine kb_call C 167 (E := (.inr (9, [.ref (b + 1), .ref (b + 84), .null, .int 0, .null, .null, .null, .null]) :: (mkM G (b + 1) ++ mkM G (b + 84)))) si_X5_init wl_X9_9 rfl (k_X5 G) (by decide) (by simp [List.length_append, mkM_len, hsM_len, txM_len, poM_len]) rfl (by omega) (by decide) (by decide) rfl (Nat.le_of_ble_eq_true rfl) dX9_init_31 (M' := (.inr (9, [.ref (b + 1), .ref (b + 84), .null, .int 0, .null, .null, .null, .null]) :: ((mkM G (b + 1) ++ mkM G (b + 84)) ++ mkM G (b + 167)))) rfl ?_
  refine kb_sum 249 1938 rfl rfl ?_
  refine kb_putF C hnm 9 0 2 tyX9 rfl inA9 tyX9_ok nmX9 (by decide) wf_X9_19 rfl rfl rfl (tyX9_ok 2 (by decide)) rfl rfl rfl (Nat.le_of_ble_eq_true rfl) dX9_init_34 (M' := (.inr (9, [.ref (b + 1), .ref (b + 84), .ref (b + 167), .int 0, .null, .null, .null, .null]) :: ((mkM G (b + 1) ++ mkM G (b + 84)) ++ mkM G (b + 167)))) rfl ?_
  refine kb_aload_n C dX9_init_37 rfl rfl ?_
  refine kb_iconst C (v := 0) dX9_init_38 ki_0 ?_
  refine kb_put C 9 0 3 tyX9 rfl inA9 tyX9_ok nmX9 (by decide) wf_X9_22 rfl rfl (tyX9_ok 3 (by decide)) (nar01 (Or.inl rfl)) (fit01 (Or.inl rfl)) rfl (Nat.le_of_ble_eq_true rfl) dX9_init_39 (M' := (.inr (9, [.ref (b + 1), .ref (b + 84), .ref (b + 167), .int 0, .null, .null, .null, .null]) :: ((mkM G (b + 1) ++ mkM G (b + 84)) ++ mkM G (b + 167)))) rfl ?_
  refine kb_aload_n C dX9_init_42 rfl rfl ?_
  refine kb_new C 2 tyX2 250 rfl inA2 tyX2_ok wc_X9_26 wi_X2 wn_X2 (fs := [.null, .int 0]) (by decide) (by simp [List.length_append, mkM_len, hsM_len, txM_len, poM_len]) (by omega) (by decide) (by decide) dX9_init_43 (M' := (.inr (9, [.ref (b + 1), .ref (b + 84), .ref (b + 167), .int 0, .null, .null, .null, .null]) :: (((mkM G (b + 1) ++ mkM G (b + 84)) ++ mkM G (b + 167)) ++ [hs0]))) rfl ?_
  refine kb_sum 250 1940 rfl rfl ?_
  refine kb_dup C dX9_init_46 ?_
  refine kb_call C 250 (E := (.inr (9, [.ref (b + 1), .ref (b + 84), .ref (b + 167), .int 0, .null, .null, .null, .null]) :: ((mkM G (b + 1) ++ mkM G (b + 84)) ++ mkM G (b + 167)))) si_X2_init wl_X9_28 rfl (k_X2 G) (by decide) (by simp [List.length_append, mkM_len, hsM_len, txM_len, poM_len]) rfl (by omega) (by decide) (by decide) rfl (Nat.le_of_ble_eq_true rfl) dX9_init_47 (M' := (.inr (9, [.ref (b + 1), .ref (b + 84), .ref (b + 167), .int 0, .null, .null, .null, .null]) :: (((mkM G (b + 1) ++ mkM G (b + 84)) ++ mkM G (b + 167)) ++ hsM G (b + 250)))) rfl ?_
  refine kb_sum 583 4528 rfl rfl ?_
  refine kb_putF C hnm 9 0 4 tyX9 rfl inA9 tyX9_ok nmX9 (by decide) wf_X9_29 rfl rfl rfl (tyX9_ok 4 (by decide)) rfl rfl rfl (Nat.le_of_ble_eq_true rfl) dX9_init_50 (M' := (.inr (9, [.ref (b + 1), .ref (b + 84), .ref (b + 167), .int 0, .ref (b + 250), .null, .null, .null]) :: (((mkM G (b + 1) ++ mkM G (b + 84)) ++ mkM G (b + 167)) ++ hsM G (b + 250)))) rfl ?_
  refine kb_aload_n C dX9_init_53 rfl rfl ?_
  refine kb_new C 1 tyX1 584 rfl inA1 tyX1_ok wc_X9_33 wi_X1 wn_X1 (fs := [.null, .int 0, .null, .int 0]) (by decide) (by simp [List.length_append, mkM_len, hsM_len, txM_len, poM_len]) (by omega) (by decide) (by decide) dX9_init_54 (M' := (.inr (9, [.ref (b + 1), .ref (b + 84), .ref (b + 167), .int 0, .ref (b + 250), .null, .null, .null]) :: ((((mkM G (b + 1) ++ mkM G (b + 84)) ++ mkM G (b + 167)) ++ hsM G (b + 250)) ++ [tx0]))) rfl ?_
  refine kb_sum 584 4532 rfl rfl ?_
  refine kb_dup C dX9_init_57 ?_
  refine kb_call C 584 (E := (.inr (9, [.ref (b + 1), .ref (b + 84), .ref (b + 167), .int 0, .ref (b + 250), .null, .null, .null]) :: (((mkM G (b + 1) ++ mkM G (b + 84)) ++ mkM G (b + 167)) ++ hsM G (b + 250)))) si_X1_init wl_X9_35 rfl (k_X1 G) (by decide) (by simp [List.length_append, mkM_len, hsM_len, txM_len, poM_len]) rfl (by omega) (by decide) (by decide) rfl (Nat.le_of_ble_eq_true rfl) dX9_init_58 (M' := (.inr (9, [.ref (b + 1), .ref (b + 84), .ref (b + 167), .int 0, .ref (b + 250), .null, .null, .null]) :: ((((mkM G (b + 1) ++ mkM G (b + 84)) ++ mkM G (b + 167)) ++ hsM G (b + 250)) ++ txM G (b + 584)))) rfl ?_
  refine kb_sum 596 4642 rfl rfl ?_
  refine kb_putF C hnm 9 0 5 tyX9 rfl inA9 tyX9_ok nmX9 (by decide) wf_X9_36 rfl rfl rfl (tyX9_ok 5 (by decide)) rfl rfl rfl (Nat.le_of_ble_eq_true rfl) dX9_init_61 (M' := (.inr (9, [.ref (b + 1), .ref (b + 84), .ref (b + 167), .int 0, .ref (b + 250), .ref (b + 584), .null, .null]) :: ((((mkM G (b + 1) ++ mkM G (b + 84)) ++ mkM G (b + 167)) ++ hsM G (b + 250)) ++ txM G (b + 584)))) rfl ?_
  refine kb_aload_n C dX9_init_64 rfl rfl ?_
  refine kb_new C 7 tyX7 597 rfl inA7 tyX7_ok wc_X9_40 wi_X7 wn_X7 (fs := [.int 0, .int 0, .int 0, .int 0, .int 0, .int 0]) (by decide) (by simp [List.length_append, mkM_len, hsM_len, txM_len, poM_len]) (by omega) (by decide) (by decide) dX9_init_65 (M' := (.inr (9, [.ref (b + 1), .ref (b + 84), .ref (b + 167), .int 0, .ref (b + 250), .ref (b + 584), .null, .null]) :: (((((mkM G (b + 1) ++ mkM G (b + 84)) ++ mkM G (b + 167)) ++ hsM G (b + 250)) ++ txM G (b + 584)) ++ [pt0]))) rfl ?_
  refine kb_sum 597 4648 rfl rfl ?_
  refine kb_dup C dX9_init_68 ?_
  refine kb_call C 597 (E := (.inr (9, [.ref (b + 1), .ref (b + 84), .ref (b + 167), .int 0, .ref (b + 250), .ref (b + 584), .null, .null]) :: ((((mkM G (b + 1) ++ mkM G (b + 84)) ++ mkM G (b + 167)) ++ hsM G (b + 250)) ++ txM G (b + 584)))) si_X7_init wl_X9_42 rfl (k_X7 G) (by decide) (by simp [List.length_append, mkM_len, hsM_len, txM_len, poM_len]) rfl (by omega) (by decide) (by decide) rfl (Nat.le_of_ble_eq_true rfl) dX9_init_69 (M' := (.inr (9, [.ref (b + 1), .ref (b + 84), .ref (b + 167), .int 0, .ref (b + 250), .ref (b + 584), .null, .null]) :: (((((mkM G (b + 1) ++ mkM G (b + 84)) ++ mkM G (b + 167)) ++ hsM G (b + 250)) ++ txM G (b + 584)) ++ [pt0]))) rfl ?_
  refine kb_sum 597 4648 rfl rfl ?_
  refine kb_putF C hnm 9 0 6 tyX9 rfl inA9 tyX9_ok nmX9 (by decide) wf_X9_43 rfl rfl rfl (tyX9_ok 6 (by decide)) rfl rfl rfl (Nat.le_of_ble_eq_true rfl) dX9_init_72 (M' := (.inr (9, [.ref (b + 1), .ref (b + 84), .ref (b + 167), .int 0, .ref (b + 250), .ref (b + 584), .ref (b + 597), .null]) :: (((((mkM G (b + 1) ++ mkM G (b + 84)) ++ mkM G (b + 167)) ++ hsM G (b + 250)) ++ txM G (b + 584)) ++ [pt0]))) rfl ?_
  refine kb_aload_n C dX9_init_75 rfl rfl ?_
  refine kb_new C 8 tyX8 598 rfl inA8 tyX8_ok wc_X9_47 wi_X8 wn_X8 (fs := [.null, .null, .null]) (by decide) (by simp [List.length_append, mkM_len, hsM_len, txM_len, poM_len]) (by omega) (by decide) (by decide) dX9_init_76 (M' := (.inr (9, [.ref (b + 1), .ref (b + 84), .ref (b + 167), .int 0, .ref (b + 250), .ref (b + 584), .ref (b + 597), .null]) :: ((((((mkM G (b + 1) ++ mkM G (b + 84)) ++ mkM G (b + 167)) ++ hsM G (b + 250)) ++ txM G (b + 584)) ++ [pt0]) ++ [po0]))) rfl ?_
  refine kb_sum 598 4651 rfl rfl ?_
  refine kb_dup C dX9_init_79 ?_
  refine kb_call C 598 (E := (.inr (9, [.ref (b + 1), .ref (b + 84), .ref (b + 167), .int 0, .ref (b + 250), .ref (b + 584), .ref (b + 597), .null]) :: (((((mkM G (b + 1) ++ mkM G (b + 84)) ++ mkM G (b + 167)) ++ hsM G (b + 250)) ++ txM G (b + 584)) ++ [pt0]))) si_X8_init wl_X9_49 rfl (k_X8 G) (by decide) (by simp [List.length_append, mkM_len, hsM_len, txM_len, poM_len]) rfl (by omega) (by decide) (by decide) rfl (Nat.le_of_ble_eq_true rfl) dX9_init_80 (M' := (.inr (9, [.ref (b + 1), .ref (b + 84), .ref (b + 167), .int 0, .ref (b + 250), .ref (b + 584), .ref (b + 597), .null]) :: ((((((mkM G (b + 1) ++ mkM G (b + 84)) ++ mkM G (b + 167)) ++ hsM G (b + 250)) ++ txM G (b + 584)) ++ [pt0]) ++ poM G (b + 598)))) rfl ?_
  refine kb_sum 601 4831 rfl rfl ?_
  refine kb_putF C hnm 9 0 7 tyX9 rfl inA9 tyX9_ok nmX9 (by decide) wf_X9_50 rfl rfl rfl (tyX9_ok 7 (by decide)) rfl rfl rfl (Nat.le_of_ble_eq_true rfl) dX9_init_83 (M' := (.inr (9, [.ref (b + 1), .ref (b + 84), .ref (b + 167), .int 0, .ref (b + 250), .ref (b + 584), .ref (b + 597), .ref (b + 598)]) :: ((((((mkM G (b + 1) ++ mkM G (b + 84)) ++ mkM G (b + 167)) ++ hsM G (b + 250)) ++ txM G (b + 584)) ++ [pt0]) ++ poM G (b + 598)))) rfl ?_
  exact kb_ret C dX9_init_86 rfl rfl rfl
set_option maxRecDepth 20000 in
set_option maxHeartbeats 4000000 in
theorem k_X10 (G : Gm) : Clk G 1 8 4192 m_X10_init mo0 (moM G) := by
  refine Clk.mk (cc := cX10_init) (own := RX10) (nL := 1) rfl rfl rfl rfl (by decide) rfl (by decide) (fun X b C hnm hz => ?_)
  have hO := C.2.1
  show Vb X G _ b [mo0] 0 0 0 [some (.ref b)] []
  refine kb_aload_n C dX10_init_0 rfl rfl ?_
  refine kb_obj C wl_X10_7 wo_1 wo_2 rfl (by decide) (Nat.le_of_ble_eq_true rfl) dX10_init_1 ?_
  refine kb_aload_n C dX10_init_4 rfl rfl ?_
  refine kb_sipush C (v := nI 564) dX10_init_5 (by decide +kernel) ?_
  refine kb_newa C 0 564 1 (atype := .int) (ty := .int) rfl wr_int rfl rfl (by decide) (by decide) rfl (by omega) (by decide) (by decide) dX10_init_8 (M' := (.inr (10, [.int 0, .null, .null, .null, .int 0, .null, .int 0, .null, .int 0, .int 0, .null, .null, .int 0, .int 0, .null]) :: [zi G 564])) rfl ?_
  refine kb_sum 1 564 rfl rfl ?_
  refine kb_putF C hnm 10 0 1 tyX10 rfl inA10 tyX10_ok nmX10 (by decide) wf_X10_13 rfl rfl rfl (tyX10_ok 1 (by decide)) rfl rfl rfl (Nat.le_of_ble_eq_true rfl) dX10_init_10 (M' := (.inr (10, [.int 0, .ref (b + 1), .null, .null, .int 0, .null, .int 0, .null, .int 0, .int 0, .null, .null, .int 0, .int 0, .null]) :: [zi G 564])) rfl ?_
  refine kb_aload_n C dX10_init_13 rfl rfl ?_
  refine kb_sipush C (v := nI 564) dX10_init_14 (by decide +kernel) ?_
  refine kb_newa C 0 564 2 (atype := .int) (ty := .int) rfl wr_int rfl rfl (by decide) (by decide) rfl (by omega) (by decide) (by decide) dX10_init_17 (M' := (.inr (10, [.int 0, .ref (b + 1), .null, .null, .int 0, .null, .int 0, .null, .int 0, .int 0, .null, .null, .int 0, .int 0, .null]) :: ([zi G 564] ++ [zi G 564]))) rfl ?_
  refine kb_sum 2 1128 rfl rfl ?_
  refine kb_putF C hnm 10 0 2 tyX10 rfl inA10 tyX10_ok nmX10 (by decide) wf_X10_17 rfl rfl rfl (tyX10_ok 2 (by decide)) rfl rfl rfl (Nat.le_of_ble_eq_true rfl) dX10_init_19 (M' := (.inr (10, [.int 0, .ref (b + 1), .ref (b + 2), .null, .int 0, .null, .int 0, .null, .int 0, .int 0, .null, .null, .int 0, .int 0, .null]) :: ([zi G 564] ++ [zi G 564]))) rfl ?_
  refine kb_aload_n C dX10_init_22 rfl rfl ?_
  refine kb_sipush C (v := nI 564) dX10_init_23 (by decide +kernel) ?_
  refine kb_newa C 0 564 3 (atype := .int) (ty := .int) rfl wr_int rfl rfl (by decide) (by decide) rfl (by omega) (by decide) (by decide) dX10_init_26 (M' := (.inr (10, [.int 0, .ref (b + 1), .ref (b + 2), .null, .int 0, .null, .int 0, .null, .int 0, .int 0, .null, .null, .int 0, .int 0, .null]) :: (([zi G 564] ++ [zi G 564]) ++ [zi G 564]))) rfl ?_
  refine kb_sum 3 1692 rfl rfl ?_
  refine kb_putF C hnm 10 0 3 tyX10 rfl inA10 tyX10_ok nmX10 (by decide) wf_X10_20 rfl rfl rfl (tyX10_ok 3 (by decide)) rfl rfl rfl (Nat.le_of_ble_eq_true rfl) dX10_init_28 (M' := (.inr (10, [.int 0, .ref (b + 1), .ref (b + 2), .ref (b + 3), .int 0, .null, .int 0, .null, .int 0, .int 0, .null, .null, .int 0, .int 0, .null]) :: (([zi G 564] ++ [zi G 564]) ++ [zi G 564]))) rfl ?_
  refine kb_aload_n C dX10_init_31 rfl rfl ?_
  refine kb_sipush C (v := nI 2256) dX10_init_32 (by decide +kernel) ?_
  refine kb_newa C 0 2256 4 (atype := .int) (ty := .int) rfl wr_int rfl rfl (by decide) (by decide) rfl (by omega) (by decide) (by decide) dX10_init_35 (M' := (.inr (10, [.int 0, .ref (b + 1), .ref (b + 2), .ref (b + 3), .int 0, .null, .int 0, .null, .int 0, .int 0, .null, .null, .int 0, .int 0, .null]) :: ((([zi G 564] ++ [zi G 564]) ++ [zi G 564]) ++ [zi G 2256]))) rfl ?_
  refine kb_sum 4 3948 rfl rfl ?_
  refine kb_putF C hnm 10 0 5 tyX10 rfl inA10 tyX10_ok nmX10 (by decide) wf_X10_23 rfl rfl rfl (tyX10_ok 5 (by decide)) rfl rfl rfl (Nat.le_of_ble_eq_true rfl) dX10_init_37 (M' := (.inr (10, [.int 0, .ref (b + 1), .ref (b + 2), .ref (b + 3), .int 0, .ref (b + 4), .int 0, .null, .int 0, .int 0, .null, .null, .int 0, .int 0, .null]) :: ((([zi G 564] ++ [zi G 564]) ++ [zi G 564]) ++ [zi G 2256]))) rfl ?_
  refine kb_aload_n C dX10_init_40 rfl rfl ?_
  refine kb_bipush C (v := nI 60) dX10_init_41 (by decide +kernel) ?_
  refine kb_newa C 0 60 5 (atype := .int) (ty := .int) rfl wr_int rfl rfl (by decide) (by decide) rfl (by omega) (by decide) (by decide) dX10_init_43 (M' := (.inr (10, [.int 0, .ref (b + 1), .ref (b + 2), .ref (b + 3), .int 0, .ref (b + 4), .int 0, .null, .int 0, .int 0, .null, .null, .int 0, .int 0, .null]) :: (((([zi G 564] ++ [zi G 564]) ++ [zi G 564]) ++ [zi G 2256]) ++ [zi G 60]))) rfl ?_
  refine kb_sum 5 4008 rfl rfl ?_
  refine kb_putF C hnm 10 0 7 tyX10 rfl inA10 tyX10_ok nmX10 (by decide) wf_X10_26 rfl rfl rfl (tyX10_ok 7 (by decide)) rfl rfl rfl (Nat.le_of_ble_eq_true rfl) dX10_init_45 (M' := (.inr (10, [.int 0, .ref (b + 1), .ref (b + 2), .ref (b + 3), .int 0, .ref (b + 4), .int 0, .ref (b + 5), .int 0, .int 0, .null, .null, .int 0, .int 0, .null]) :: (((([zi G 564] ++ [zi G 564]) ++ [zi G 564]) ++ [zi G 2256]) ++ [zi G 60]))) rfl ?_
  refine kb_aload_n C dX10_init_48 rfl rfl ?_
  refine kb_bipush C (v := nI 60) dX10_init_49 (by decide +kernel) ?_
  refine kb_newa C 0 60 6 (atype := .int) (ty := .int) rfl wr_int rfl rfl (by decide) (by decide) rfl (by omega) (by decide) (by decide) dX10_init_51 (M' := (.inr (10, [.int 0, .ref (b + 1), .ref (b + 2), .ref (b + 3), .int 0, .ref (b + 4), .int 0, .ref (b + 5), .int 0, .int 0, .null, .null, .int 0, .int 0, .null]) :: ((((([zi G 564] ++ [zi G 564]) ++ [zi G 564]) ++ [zi G 2256]) ++ [zi G 60]) ++ [zi G 60]))) rfl ?_
  refine kb_sum 6 4068 rfl rfl ?_
  refine kb_putF C hnm 10 0 10 tyX10 rfl inA10 tyX10_ok nmX10 (by decide) wf_X10_29 rfl rfl rfl (tyX10_ok 10 (by decide)) rfl rfl rfl (Nat.le_of_ble_eq_true rfl) dX10_init_53 (M' := (.inr (10, [.int 0, .ref (b + 1), .ref (b + 2), .ref (b + 3), .int 0, .ref (b + 4), .int 0, .ref (b + 5), .int 0, .int 0, .ref (b + 6), .null, .int 0, .int 0, .null]) :: ((((([zi G 564] ++ [zi G 564]) ++ [zi G 564]) ++ [zi G 2256]) ++ [zi G 60]) ++ [zi G 60]))) rfl ?_
  refine kb_aload_n C dX10_init_56 rfl rfl ?_
  refine kb_bipush C (v := nI 60) dX10_init_57 (by decide +kernel) ?_
  refine kb_newa C 0 60 7 (atype := .int) (ty := .int) rfl wr_int rfl rfl (by decide) (by decide) rfl (by omega) (by decide) (by decide) dX10_init_59 (M' := (.inr (10, [.int 0, .ref (b + 1), .ref (b + 2), .ref (b + 3), .int 0, .ref (b + 4), .int 0, .ref (b + 5), .int 0, .int 0, .ref (b + 6), .null, .int 0, .int 0, .null]) :: (((((([zi G 564] ++ [zi G 564]) ++ [zi G 564]) ++ [zi G 2256]) ++ [zi G 60]) ++ [zi G 60]) ++ [zi G 60]))) rfl ?_
  refine kb_sum 7 4128 rfl rfl ?_
  refine kb_putF C hnm 10 0 11 tyX10 rfl inA10 tyX10_ok nmX10 (by decide) wf_X10_32 rfl rfl rfl (tyX10_ok 11 (by decide)) rfl rfl rfl (Nat.le_of_ble_eq_true rfl) dX10_init_61 (M' := (.inr (10, [.int 0, .ref (b + 1), .ref (b + 2), .ref (b + 3), .int 0, .ref (b + 4), .int 0, .ref (b + 5), .int 0, .int 0, .ref (b + 6), .ref (b + 7), .int 0, .int 0, .null]) :: (((((([zi G 564] ++ [zi G 564]) ++ [zi G 564]) ++ [zi G 2256]) ++ [zi G 60]) ++ [zi G 60]) ++ [zi G 60]))) rfl ?_
  refine kb_aload_n C dX10_init_64 rfl rfl ?_
  refine kb_bipush C (v := nI 64) dX10_init_65 (by decide +kernel) ?_
  refine kb_newa C 0 64 8 (atype := .int) (ty := .int) rfl wr_int rfl rfl (by decide) (by decide) rfl (by omega) (by decide) (by decide) dX10_init_67 (M' := (.inr (10, [.int 0, .ref (b + 1), .ref (b + 2), .ref (b + 3), .int 0, .ref (b + 4), .int 0, .ref (b + 5), .int 0, .int 0, .ref (b + 6), .ref (b + 7), .int 0, .int 0, .null]) :: ((((((([zi G 564] ++ [zi G 564]) ++ [zi G 564]) ++ [zi G 2256]) ++ [zi G 60]) ++ [zi G 60]) ++ [zi G 60]) ++ [zi G 64]))) rfl ?_
  refine kb_sum 8 4192 rfl rfl ?_
  refine kb_putF C hnm 10 0 14 tyX10 rfl inA10 tyX10_ok nmX10 (by decide) wf_X10_35 rfl rfl rfl (tyX10_ok 14 (by decide)) rfl rfl rfl (Nat.le_of_ble_eq_true rfl) dX10_init_69 (M' := (.inr (10, [.int 0, .ref (b + 1), .ref (b + 2), .ref (b + 3), .int 0, .ref (b + 4), .int 0, .ref (b + 5), .int 0, .int 0, .ref (b + 6), .ref (b + 7), .int 0, .int 0, .ref (b + 8)]) :: ((((((([zi G 564] ++ [zi G 564]) ++ [zi G 564]) ++ [zi G 2256]) ++ [zi G 60]) ++ [zi G 60]) ++ [zi G 60]) ++ [zi G 64]))) rfl ?_
  refine kb_aload_n C dX10_init_72 rfl rfl ?_
  refine kb_get C 10 0 1 (a := b + 1) rfl inA10 (by decide) wf_X10_13 rfl rfl rfl dX10_init_73 ?_
  refine kb_iconst C (v := nI 5) dX10_init_76 (by decide +kernel) ?_
  refine kb_iconst C (v := 5) dX10_init_77 ki_5 ?_
  refine kb_iast C 1 5 564 (v := 5) (f := fun _ => 0) rfl (by decide) (by decide) dX10_init_78 (M' := (.inr (10, [.int 0, .ref (b + 1), .ref (b + 2), .ref (b + 3), .int 0, .ref (b + 4), .int 0, .ref (b + 5), .int 0, .int 0, .ref (b + 6), .ref (b + 7), .int 0, .int 0, .ref (b + 8)]) :: ((((((([mn5 G] ++ [zi G 564]) ++ [zi G 564]) ++ [zi G 2256]) ++ [zi G 60]) ++ [zi G 60]) ++ [zi G 60]) ++ [zi G 64]))) rfl ?_
  exact kb_ret C dX10_init_79 rfl rfl rfl
end
section
def sg0 : Sto := (fun f _ l => if (f = 89 ∧ l = 0) ∨ (f = 304 ∧ l = 5) then 5 else 0, fun s => if s < 4 then 3 + s else 3)
theorem sg_z {f j l : Nat} (h : f ≠ 89) (h2 : f ≠ 304) : sg0.1 f j l = 0 := if_neg (by omega)
end
section
/-! FROM THE CELLS AS THEY WERE MADE TO THE STORE -/
theorem Rb.right' {G : Gm} {b b' : Nat} {M N : List va_E} {H : Heap} (h : Rb G b (M ++ N) H) (e : b + M.length = b') : Rb G b' N H := by
  subst e
  exact h.right
theorem Rb_fill {G : Gm} {F : Nat → List va_E} {w a : Nat} {H : Heap} (hF : ∀ a, (F a).length = w) : ∀ k, Rb G a (fillB F a w k) H → ∀ l, l < k → Rb G (a + w * l) (F (a + w * l)) H
  | 0, _, _, hl => absurd hl (Nat.not_lt_zero _)
  | k + 1, h, l, hl => by
    have h : Rb G a (fillB F a w k ++ F (a + w * k)) H := h
    rcases Nat.lt_or_eq_of_le (Nat.le_of_lt_succ hl) with h1 | h1
    · exact Rb_fill hF k h.left l h1
    · subst h1
      exact h.right' (by rw [fb_len0 hF])
theorem ran_ra {G : Gm} {H : Heap} {a i N q w : Nat} {g : Nat → Nat} (h : va_at G.2.2.1 clz (a, ran G i N q w N) H) (hg : ∀ j, j < N → q + w * j = g j) : va_at G.2.2.1 clz (a, ra G i N g) H := by
  have h1 : H[a]? = some (vp_cell (G.2.2.2 i) (N, .inr (.inr (.inr (.inr (ranf q w N)))))) := h
  show H[a]? = some (vp_cell (G.2.2.2 i) (N, .inr (.inr (.inr (.inr fun j => some (g j))))))
  rw [h1, vp_cell_q, vp_cell_q]
  have e : (fun j : Fin N => va_rf (ranf q w N j.val)) = (fun j : Fin N => va_rf (some (g j.val))) := funext fun j => by
    unfold ranf
    rw [if_pos j.isLt, hg _ j.isLt]
  exact congrArg (fun z : Fin N → Value => some ({ cls := G.2.2.2 i, slots := Array.ofFn z, vm := .none } : Cell)) e
theorem at_as {G : Gm} {H : Heap} {a a' : Nat} {e e' : va_E} (h : va_at G.2.2.1 clz (a, e) H) (ha : a = a') (he : e' = e) : va_at G.2.2.1 clz (a', e') H := by
  subst ha; subst he
  exact h
def L0 (G : Gm) : List va_E := pnM G G.1 ++ moM G (G.1 + 602)
theorem pnM_len {G : Gm} {b : Nat} : (pnM G b).length = 602 := by simp [pnM, mkM_len, hsM_len, txM_len, poM_len]
theorem sg_89 {j l : Nat} (h : l = 0) : sg0.1 89 j l = 5 := if_pos (Or.inl ⟨rfl, h⟩)
theorem sg_row {f j : Nat} (h : f ≠ 89) (h2 : f ≠ 304) : sg0.1 f j = fun _ => 0 := funext fun _ => sg_z h h2
theorem sg_304 : sg0.1 304 0 = upd (fun _ => 0) 5 5 := by
  funext l
  show (if ((304 : Nat) = 89 ∧ l = 0) ∨ ((304 : Nat) = 304 ∧ l = 5) then (5 : Int32) else 0) = if l = 5 then 5 else 0
  by_cases e : l = 5
  · rw [if_pos (Or.inr ⟨rfl, e⟩), if_pos e]
  · rw [if_neg (by omega), if_neg e]
section FIN
variable {G : Gm} {H : Heap}
set_option maxHeartbeats 4000000 in
theorem fin_m {j : Nat} (h : Rb G (G.1 + mb j) (mkM G (G.1 + mb j)) H) : va_at G.2.2.1 clz (ad G 5 j 0, cE G sg0 5 j 0) H ∧ va_at G.2.2.1 clz (ad G 11 j 0, cE G sg0 11 j 0) H ∧ va_at G.2.2.1 clz (ad G 12 j 0, cE G sg0 12 j 0) H ∧ va_at G.2.2.1 clz (ad G 13 j 0, cE G sg0 13 j 0) H ∧ va_at G.2.2.1 clz (ad G 14 j 0, cE G sg0 14 j 0) H ∧ (∀ l, l < 8 → va_at G.2.2.1 clz (ad G 3 j l, cE G sg0 3 j l) H) ∧ (∀ l, l < 10 → va_at G.2.2.1 clz (ad G 4 j l, cE G sg0 4 j l) H) ∧ ∀ l, l < 60 → va_at G.2.2.1 clz (ad G 6 j l, cE G sg0 6 j l) H := by
  have c0 := h.at (t := 0) rfl
  have c1 := h.at (t := 1) rfl
  have c2 := h.at (t := 2) rfl
  have c3 := h.at (t := 3) rfl
  have c4 := h.at (t := 4) rfl
  have hq : Rb G (G.1 + mb j + 4) ((([zi G 4] ++ fillB (fun _ => [iv0]) (G.1 + mb j + 5) 1 8) ++ fillB (fun _ => [lo0]) (G.1 + mb j + 13) 1 10) ++ fillB (fun _ => [no0]) (G.1 + mb j + 23) 1 60) H := by
    have h1 := Rb.right' (M := [.inr (5, [.ref (G.1 + mb j + 1), .ref (G.1 + mb j + 2), .ref (G.1 + mb j + 3), .ref (G.1 + mb j + 4), .int 0, .int 0, .int 0, .int 0, .int 0, .int 5]), ran G 2 8 (G.1 + mb j + 5) 1 8, ran G 3 10 (G.1 + mb j + 13) 1 10]) h rfl
    exact Rb.right' (M := [ran G 4 60 (G.1 + mb j + 23) 1 60]) h1 rfl
  have f3 := Rb_fill (w := 1) (a := G.1 + mb j + 5) (fun _ => rfl) 8 (hq.left.left.right' rfl)
  have f4 := Rb_fill (w := 1) (a := G.1 + mb j + 13) (fun _ => rfl) 10 (hq.left.right' (by simp [one_len]))
  have f6 := Rb_fill (w := 1) (a := G.1 + mb j + 23) (fun _ => rfl) 60 (hq.right' (by simp [one_len]))
  refine ⟨at_as c0 rfl ?_, ran_ra c1 (fun l hl => ?_), ran_ra c2 (fun l hl => ?_), ran_ra c3 (fun l hl => ?_), at_as c4 rfl ?_, fun l hl => at_as ((f3 l hl).at (t := 0) rfl) ?_ ?_, fun l hl => at_as ((f4 l hl).at (t := 0) rfl) ?_ ?_, fun l hl => at_as ((f6 l hl).at (t := 0) rfl) ?_ ?_⟩
  · show (Sum.inr (5, [rf G 11 j 0, rf G 12 j 0, rf G 13 j 0, rf G 14 j 0, .int (sg0.1 84 j 0), .int (sg0.1 85 j 0), .int (sg0.1 86 j 0), .int (sg0.1 87 j 0), .int (sg0.1 88 j 0), .int (sg0.1 89 j 0)]) : va_E) = _
    have a1 : rf G 11 j 0 = .ref (G.1 + mb j + 1) := congrArg Value.ref (Nat.add_assoc _ _ _).symm
    have a2 : rf G 12 j 0 = .ref (G.1 + mb j + 2) := congrArg Value.ref (Nat.add_assoc _ _ _).symm
    have a3 : rf G 13 j 0 = .ref (G.1 + mb j + 3) := congrArg Value.ref (Nat.add_assoc _ _ _).symm
    have a4 : rf G 14 j 0 = .ref (G.1 + mb j + 4) := congrArg Value.ref (Nat.add_assoc _ _ _).symm
    rw [sg_z (f := 84) (by decide) (by decide), sg_z (f := 85) (by decide) (by decide), sg_z (f := 86) (by decide) (by decide), sg_z (f := 87) (by decide) (by decide), sg_z (f := 88) (by decide) (by decide), sg_89 rfl, a1, a2, a3, a4]
  · show G.1 + mb j + 5 + 1 * l = G.1 + (mb j + 5 + l)
    omega
  · show G.1 + mb j + 13 + 1 * l = G.1 + (mb j + 13 + l)
    omega
  · show G.1 + mb j + 23 + 1 * l = G.1 + (mb j + 23 + l)
    omega
  · show (Sum.inl (G.2.2.2 0, 4, .inl (sg0.1 224 j)) : va_E) = _
    rw [sg_row (f := 224) (by decide) (by decide)]
  · show G.1 + mb j + 5 + 1 * l + 0 = G.1 + (mb j + 5 + l)
    omega
  · show (Sum.inr (3, [.int (sg0.1 48 j l), .int (sg0.1 49 j l), .int (sg0.1 50 j l)]) : va_E) = _
    rw [sg_z (f := 48) (by decide) (by decide), sg_z (f := 49) (by decide) (by decide), sg_z (f := 50) (by decide) (by decide)]
  · show G.1 + mb j + 13 + 1 * l + 0 = G.1 + (mb j + 13 + l)
    omega
  · show (Sum.inr (4, [.int (sg0.1 64 j l), .int (sg0.1 65 j l), .int (sg0.1 66 j l), .int (sg0.1 67 j l), .int (sg0.1 68 j l), .int (sg0.1 69 j l), .int (sg0.1 70 j l), .int (sg0.1 71 j l), .int (sg0.1 72 j l), .int (sg0.1 73 j l), .int (sg0.1 74 j l)]) : va_E) = _
    rw [sg_z (f := 64) (by decide) (by decide), sg_z (f := 65) (by decide) (by decide), sg_z (f := 66) (by decide) (by decide), sg_z (f := 67) (by decide) (by decide), sg_z (f := 68) (by decide) (by decide), sg_z (f := 69) (by decide) (by decide), sg_z (f := 70) (by decide) (by decide), sg_z (f := 71) (by decide) (by decide), sg_z (f := 72) (by decide) (by decide), sg_z (f := 73) (by decide) (by decide), sg_z (f := 74) (by decide) (by decide)]
  · show G.1 + mb j + 23 + 1 * l + 0 = G.1 + (mb j + 23 + l)
    omega
  · show (Sum.inr (6, [.int (sg0.1 96 j l), .int (sg0.1 97 j l), .int (sg0.1 98 j l), .int (sg0.1 99 j l), .int (sg0.1 100 j l), .int (sg0.1 101 j l), .int (sg0.1 102 j l)]) : va_E) = _
    rw [sg_z (f := 96) (by decide) (by decide), sg_z (f := 97) (by decide) (by decide), sg_z (f := 98) (by decide) (by decide), sg_z (f := 99) (by decide) (by decide), sg_z (f := 100) (by decide) (by decide), sg_z (f := 101) (by decide) (by decide), sg_z (f := 102) (by decide) (by decide)]
set_option maxHeartbeats 4000000 in
theorem fin_all (h : Rb G G.1 (L0 G) H) : ∀ κ j l, okt κ j l → va_at G.2.2.1 clz (ad G κ j l, cE G sg0 κ j l) H := by
  have hp : Rb G G.1 (pnM G G.1) H := h.left
  have hm : Rb G (G.1 + 602) (moM G (G.1 + 602)) H := h.right' (by rw [pnM_len])
  have hR : Rb G (G.1 + 1) ((((((mkM G (G.1 + 1) ++ mkM G (G.1 + 84)) ++ mkM G (G.1 + 167)) ++ hsM G (G.1 + 250)) ++ txM G (G.1 + 584)) ++ [pt0]) ++ poM G (G.1 + 598)) H := Rb.right' (M := [.inr (9, [.ref (G.1 + 1), .ref (G.1 + 84), .ref (G.1 + 167), .int 0, .ref (G.1 + 250), .ref (G.1 + 584), .ref (G.1 + 597), .ref (G.1 + 598)])]) hp rfl
  have m0 : Rb G (G.1 + 1) (mkM G (G.1 + 1)) H := hR.left.left.left.left.left.left
  have m1 : Rb G (G.1 + 84) (mkM G (G.1 + 84)) H := hR.left.left.left.left.left.right' (by rw [mkM_len])
  have m2 : Rb G (G.1 + 167) (mkM G (G.1 + 167)) H := hR.left.left.left.left.right' (by simp only [List.length_append, mkM_len])
  have hh : Rb G (G.1 + 250) (hsM G (G.1 + 250)) H := hR.left.left.left.right' (by simp only [List.length_append, mkM_len])
  have ht : Rb G (G.1 + 584) (txM G (G.1 + 584)) H := hR.left.left.right' (by simp only [List.length_append, mkM_len, hsM_len])
  have hpt : Rb G (G.1 + 597) [pt0] H := hR.left.right' (by simp only [List.length_append, mkM_len, hsM_len, txM_len])
  have hpo : Rb G (G.1 + 598) (poM G (G.1 + 598)) H := hR.right' (by simp only [List.length_append, mkM_len, hsM_len, txM_len, List.length_singleton])
  have hf := Rb_fill (w := 83) (a := G.1 + 250 + 2) (fun _ => mkM_len) 4 (hh.right' (M := [.inr (2, [.ref (G.1 + 250 + 1), .int 0]), ran G 5 4 (G.1 + 250 + 2) 83 4]) rfl)
  have htf := Rb_fill (w := 1) (a := G.1 + 584 + 3) (fun _ => rfl) 10 (ht.right' (M := [.inr (1, [.ref (G.1 + 584 + 1), .int 0, .ref (G.1 + 584 + 2), .int 0]), zc G, ran G 6 10 (G.1 + 584 + 3) 1 10]) rfl)
  have mm : ∀ j, j < 7 → Rb G (G.1 + mb j) (mkM G (G.1 + mb j)) H := by
    intro j hj
    rcases (show j = 0 ∨ j = 1 ∨ j = 2 ∨ j = 3 ∨ j = 4 ∨ j = 5 ∨ j = 6 by omega) with rfl | rfl | rfl | rfl | rfl | rfl | rfl
    · exact m0
    · exact m1
    · exact m2
    · exact hf 0 (by decide)
    · exact hf 1 (by decide)
    · exact hf 2 (by decide)
    · exact hf 3 (by decide)
  intro κ j l hk
  obtain ⟨k1, k2, k3⟩ := hk
  rcases (show κ = 0 ∨ κ = 1 ∨ κ = 2 ∨ κ = 3 ∨ κ = 4 ∨ κ = 5 ∨ κ = 6 ∨ κ = 7 ∨ κ = 8 ∨ κ = 9 ∨ κ = 10 ∨ κ = 11 ∨ κ = 12 ∨ κ = 13 ∨ κ = 14 ∨ κ = 15 ∨ κ = 16 ∨ κ = 17 ∨ κ = 18 ∨ κ = 19 ∨ κ = 20 ∨ κ = 21 ∨ κ = 22 ∨ κ = 23 ∨ κ = 24 ∨ κ = 25 ∨ κ = 26 by omega) with rfl | rfl | rfl | rfl | rfl | rfl | rfl | rfl | rfl | rfl | rfl | rfl | rfl | rfl | rfl | rfl | rfl | rfl | rfl | rfl | rfl | rfl | rfl | rfl | rfl | rfl | rfl
  · have k2 : j < 1 := k2
    have k3 : l < 10 := k3
    refine at_as ((htf l k3).at (t := 0) rfl) ?_ ?_
    · show G.1 + 584 + 3 + 1 * l + 0 = G.1 + (587 + l)
      omega
    · show (Sum.inr (0, [.int (sg0.1 0 j l), .int (sg0.1 1 j l), .int (sg0.1 2 j l), .int (sg0.1 3 j l)]) : va_E) = _
      rw [sg_z (f := 0) (by decide) (by decide), sg_z (f := 1) (by decide) (by decide), sg_z (f := 2) (by decide) (by decide), sg_z (f := 3) (by decide) (by decide)]
  · have k2 : j < 1 := k2
    have k3 : l < 1 := k3
    obtain rfl : j = 0 := by omega
    obtain rfl : l = 0 := by omega
    refine at_as (ht.at (t := 0) rfl) rfl ?_
    show (Sum.inr (1, [rf G 16 0 0, .int (sg0.1 17 0 0), rf G 17 0 0, .int (sg0.1 19 0 0)]) : va_E) = _
    rw [sg_z (f := 17) (by decide) (by decide), sg_z (f := 19) (by decide) (by decide)]
    rfl
  · have k2 : j < 1 := k2
    have k3 : l < 1 := k3
    obtain rfl : j = 0 := by omega
    obtain rfl : l = 0 := by omega
    refine at_as (hh.at (t := 0) rfl) rfl ?_
    show (Sum.inr (2, [rf G 15 0 0, .int (sg0.1 33 0 0)]) : va_E) = _
    rw [sg_z (f := 33) (by decide) (by decide)]
    rfl
  · exact (fin_m (mm j k2)).2.2.2.2.2.1 l k3
  · exact (fin_m (mm j k2)).2.2.2.2.2.2.1 l k3
  · have k3 : l < 1 := k3
    obtain rfl : l = 0 := by omega
    exact (fin_m (mm j k2)).1
  · exact (fin_m (mm j k2)).2.2.2.2.2.2.2 l k3
  · have k2 : j < 1 := k2
    have k3 : l < 1 := k3
    obtain rfl : j = 0 := by omega
    obtain rfl : l = 0 := by omega
    refine at_as (hpt.at (t := 0) rfl) rfl ?_
    show (Sum.inr (7, [.int (sg0.1 112 0 0), .int (sg0.1 113 0 0), .int (sg0.1 114 0 0), .int (sg0.1 115 0 0), .int (sg0.1 116 0 0), .int (sg0.1 117 0 0)]) : va_E) = _
    rw [sg_z (f := 112) (by decide) (by decide), sg_z (f := 113) (by decide) (by decide), sg_z (f := 114) (by decide) (by decide), sg_z (f := 115) (by decide) (by decide), sg_z (f := 116) (by decide) (by decide), sg_z (f := 117) (by decide) (by decide)]
  · have k2 : j < 1 := k2
    have k3 : l < 1 := k3
    obtain rfl : j = 0 := by omega
    obtain rfl : l = 0 := by omega
    refine at_as (hpo.at (t := 0) rfl) rfl ?_
    show (Sum.inr (8, [rf G 18 0 0, rf G 18 1 0, rf G 18 2 0]) : va_E) = _
    rfl
  · have k2 : j < 1 := k2
    have k3 : l < 1 := k3
    obtain rfl : j = 0 := by omega
    obtain rfl : l = 0 := by omega
    refine at_as (hp.at (t := 0) rfl) rfl ?_
    show (Sum.inr (9, [rf G 5 0 0, rf G 5 1 0, rf G 5 2 0, .int (sg0.1 147 0 0), rf G 2 0 0, rf G 1 0 0, rf G 7 0 0, rf G 8 0 0]) : va_E) = _
    rw [sg_z (f := 147) (by decide) (by decide)]
    rfl
  · have k2 : j < 1 := k2
    have k3 : l < 1 := k3
    obtain rfl : j = 0 := by omega
    obtain rfl : l = 0 := by omega
    refine at_as (hm.at (t := 0) rfl) rfl ?_
    show (Sum.inr (10, [.int (sg0.1 160 0 0), rf G 19 0 0, rf G 20 0 0, rf G 21 0 0, .int (sg0.1 164 0 0), rf G 22 0 0, .int (sg0.1 166 0 0), rf G 23 0 0, .int (sg0.1 168 0 0), .int (sg0.1 169 0 0), rf G 24 0 0, rf G 25 0 0, .int (sg0.1 172 0 0), .int (sg0.1 173 0 0), rf G 26 0 0]) : va_E) = _
    rw [sg_z (f := 160) (by decide) (by decide), sg_z (f := 164) (by decide) (by decide), sg_z (f := 166) (by decide) (by decide), sg_z (f := 168) (by decide) (by decide), sg_z (f := 169) (by decide) (by decide), sg_z (f := 172) (by decide) (by decide), sg_z (f := 173) (by decide) (by decide)]
    rfl
  · have k3 : l < 1 := k3
    obtain rfl : l = 0 := by omega
    exact (fin_m (mm j k2)).2.1
  · have k3 : l < 1 := k3
    obtain rfl : l = 0 := by omega
    exact (fin_m (mm j k2)).2.2.1
  · have k3 : l < 1 := k3
    obtain rfl : l = 0 := by omega
    exact (fin_m (mm j k2)).2.2.2.1
  · have k3 : l < 1 := k3
    obtain rfl : l = 0 := by omega
    exact (fin_m (mm j k2)).2.2.2.2.1
  · have k2 : j < 1 := k2
    have k3 : l < 1 := k3
    obtain rfl : j = 0 := by omega
    obtain rfl : l = 0 := by omega
    refine ran_ra (hh.at (t := 1) rfl) (fun i hi => ?_)
    have e : sg0.2 i = 3 + i := if_pos hi
    have e2 : off 5 (3 + i) 0 = 252 + 83 * i := by
      show (if 3 + i < 3 then _ else 252 + 83 * (3 + i - 3)) = _
      rw [if_neg (by omega), Nat.add_sub_cancel_left]
    show G.1 + 250 + 2 + 83 * i = G.1 + off 5 (sg0.2 i) 0
    rw [e, e2]
    omega
  · have k2 : j < 1 := k2
    have k3 : l < 1 := k3
    obtain rfl : j = 0 := by omega
    obtain rfl : l = 0 := by omega
    refine at_as (ht.at (t := 1) rfl) rfl ?_
    show (Sum.inl (G.2.2.2 1, 60, .inl (sg0.1 256 0)) : va_E) = _
    rw [sg_row (f := 256) (by decide) (by decide)]
  · have k2 : j < 1 := k2
    have k3 : l < 1 := k3
    obtain rfl : j = 0 := by omega
    obtain rfl : l = 0 := by omega
    refine ran_ra (ht.at (t := 2) rfl) (fun i hi => ?_)
    show G.1 + 584 + 3 + 1 * i = G.1 + (587 + i)
    omega
  · have k2 : j < 3 := k2
    have k3 : l < 1 := k3
    obtain rfl : l = 0 := by omega
    rcases (show j = 0 ∨ j = 1 ∨ j = 2 by omega) with rfl | rfl | rfl
    · refine at_as (hpo.at (t := 1) rfl) rfl ?_
      show (Sum.inl (G.2.2.2 0, 60, .inl (sg0.1 288 0)) : va_E) = _
      rw [sg_row (f := 288) (by decide) (by decide)]
    · refine at_as (hpo.at (t := 2) rfl) rfl ?_
      show (Sum.inl (G.2.2.2 0, 60, .inl (sg0.1 288 1)) : va_E) = _
      rw [sg_row (f := 288) (by decide) (by decide)]
    · refine at_as (hpo.at (t := 3) rfl) rfl ?_
      show (Sum.inl (G.2.2.2 0, 60, .inl (sg0.1 288 2)) : va_E) = _
      rw [sg_row (f := 288) (by decide) (by decide)]
  · have k2 : j < 1 := k2
    have k3 : l < 1 := k3
    obtain rfl : j = 0 := by omega
    obtain rfl : l = 0 := by omega
    refine at_as (hm.at (t := 1) rfl) rfl ?_
    show (Sum.inl (G.2.2.2 0, 564, .inl (sg0.1 304 0)) : va_E) = _
    rw [sg_304]
  · have k2 : j < 1 := k2
    have k3 : l < 1 := k3
    obtain rfl : j = 0 := by omega
    obtain rfl : l = 0 := by omega
    refine at_as (hm.at (t := 2) rfl) rfl ?_
    show (Sum.inl (G.2.2.2 0, 564, .inl (sg0.1 320 0)) : va_E) = _
    rw [sg_row (f := 320) (by decide) (by decide)]
  · have k2 : j < 1 := k2
    have k3 : l < 1 := k3
    obtain rfl : j = 0 := by omega
    obtain rfl : l = 0 := by omega
    refine at_as (hm.at (t := 3) rfl) rfl ?_
    show (Sum.inl (G.2.2.2 0, 564, .inl (sg0.1 336 0)) : va_E) = _
    rw [sg_row (f := 336) (by decide) (by decide)]
  · have k2 : j < 1 := k2
    have k3 : l < 1 := k3
    obtain rfl : j = 0 := by omega
    obtain rfl : l = 0 := by omega
    refine at_as (hm.at (t := 4) rfl) rfl ?_
    show (Sum.inl (G.2.2.2 0, 2256, .inl (sg0.1 352 0)) : va_E) = _
    rw [sg_row (f := 352) (by decide) (by decide)]
  · have k2 : j < 1 := k2
    have k3 : l < 1 := k3
    obtain rfl : j = 0 := by omega
    obtain rfl : l = 0 := by omega
    refine at_as (hm.at (t := 5) rfl) rfl ?_
    show (Sum.inl (G.2.2.2 0, 60, .inl (sg0.1 368 0)) : va_E) = _
    rw [sg_row (f := 368) (by decide) (by decide)]
  · have k2 : j < 1 := k2
    have k3 : l < 1 := k3
    obtain rfl : j = 0 := by omega
    obtain rfl : l = 0 := by omega
    refine at_as (hm.at (t := 6) rfl) rfl ?_
    show (Sum.inl (G.2.2.2 0, 60, .inl (sg0.1 384 0)) : va_E) = _
    rw [sg_row (f := 384) (by decide) (by decide)]
  · have k2 : j < 1 := k2
    have k3 : l < 1 := k3
    obtain rfl : j = 0 := by omega
    obtain rfl : l = 0 := by omega
    refine at_as (hm.at (t := 7) rfl) rfl ?_
    show (Sum.inl (G.2.2.2 0, 60, .inl (sg0.1 400 0)) : va_E) = _
    rw [sg_row (f := 400) (by decide) (by decide)]
  · have k2 : j < 1 := k2
    have k3 : l < 1 := k3
    obtain rfl : j = 0 := by omega
    obtain rfl : l = 0 := by omega
    refine at_as (hm.at (t := 8) rfl) rfl ?_
    show (Sum.inl (G.2.2.2 0, 64, .inl (sg0.1 416 0)) : va_E) = _
    rw [sg_row (f := 416) (by decide) (by decide)]
theorem fin_rep (h : Rb G G.1 (L0 G) H) : Rep G sg0 H := by
  refine ⟨fun k q hk => ?_, fun i => ?_⟩
  · obtain ⟨h1, rfl⟩ := wl_lt hk
    obtain ⟨o1, o2, o3, o4⟩ := off_tok k h1
    have h2 := fin_all h _ _ _ ⟨o2, o3, o4⟩
    exact at_as h2 (by show G.1 + off _ _ _ = G.1 + k; rw [o1]) rfl
  · show (if i < 4 then 3 + i else 3) < 7
    by_cases h : i < 4
    · rw [if_pos h]; omega
    · rw [if_neg h]; decide
end FIN
/-! WHAT HOLDS AT THE LAW'S ENTRY -/
theorem arr_prim {args : Array Value} {s : State} {ty : FieldType} (h : (Cond.arrayClass ty).before args s = true) : ∃ cA : ClassId, ArrOfT s cA ty ∧ s.vm.findClass ("[" ++ ty.toString) = some cA := by
  obtain ⟨c, k, comp, h1, h2, h3⟩ := Cond.arrayClass_spec h
  exact ⟨c, fun n z => ⟨fun k h => (by cases h), k, h2, comp, h3⟩, h1⟩
theorem arr_obj {s : State} {C : String} (h : va_AO C s) : ∃ cA : ClassId, ArrOfT s cA (.object C) ∧ va_RA s cA (.object C) := by
  obtain ⟨comp, c, k, h1, -, h3, h4, h5⟩ := Cond.arrayOver_spec h
  exact ⟨c, fun n z => ⟨fun k h => (by cases h), k, h3, comp, h4⟩, k, comp, h3, h4, h1, h5⟩
section ENTRY
variable {args : Array Value} {s : State}
theorem ent_A (hts : ∀ w ∈ lw_tbl, w.before args s = true) : ∀ w ∈ wsA, w.before args s = true := fun w hw => hts w (List.mem_filter.mp hw).1
theorem ent_OA (hts : ∀ w ∈ lw_tbl, w.before args s = true) : OA s :=
  ⟨va_AO.of (hts (.arrayOver (.object RX0)) (by decide +kernel)), va_AO.of (hts (.arrayOver (.object RX3)) (by decide +kernel)), va_AO.of (hts (.arrayOver (.object RX4)) (by decide +kernel)), va_AO.of (hts (.arrayOver (.object RX5)) (by decide +kernel)), va_AO.of (hts (.arrayOver (.object RX6)) (by decide +kernel))⟩
theorem ent_NW (hts : ∀ w ∈ lw_tbl, w.before args s = true) : NW s :=
  ⟨va_Nw.of rfl (hts (.fieldLinkNest "PeerNotes$Market" 29 "PeerNotes" "FEES" "[I" "PeerNotes") (by decide +kernel)), fun q hq => va_Nw.of rfl (hts _ ((by decide +kernel : ∀ q ∈ nsM, Cond.methodLinkNest q.1 q.2.1 q.2.2.1 q.2.2.2 ∈ lw_tbl) q hq))⟩
theorem ent_Wt (hts : ∀ w ∈ lw_tbl, w.before args s = true) (g t : Nat) : ∃ G : Gm, (G.1 = g ∧ G.2.1 = t) ∧ Wt G s := by
  have hA := ent_A hts
  have hk : ∀ κ : Nat, ∃ p : ClassId × (Nat → Nat), ∀ q : vw_C, clz[κ]? = some q → u_Kn s q.1 q.2.1 q.2.2 p.1 p.2 := by
    intro κ
    obtain ⟨c0, i0, h0⟩ := u_known (C := RX0) (T := TX0) (N := 4) hA inA0 (hA _ wi_X0)
    match κ with
    | 0 => exact ⟨(c0, i0), fun q hq => by cases hq; exact h0⟩
    | 1 => obtain ⟨c, i, h⟩ := u_known (C := RX1) (T := TX1) (N := 4) hA inA1 (hA _ wi_X1); exact ⟨(c, i), fun q hq => by cases hq; exact h⟩
    | 2 => obtain ⟨c, i, h⟩ := u_known (C := RX2) (T := TX2) (N := 2) hA inA2 (hA _ wi_X2); exact ⟨(c, i), fun q hq => by cases hq; exact h⟩
    | 3 => obtain ⟨c, i, h⟩ := u_known (C := RX3) (T := TX3) (N := 3) hA inA3 (hA _ wi_X3); exact ⟨(c, i), fun q hq => by cases hq; exact h⟩
    | 4 => obtain ⟨c, i, h⟩ := u_known (C := RX4) (T := TX4) (N := 11) hA inA4 (hA _ wi_X4); exact ⟨(c, i), fun q hq => by cases hq; exact h⟩
    | 5 => obtain ⟨c, i, h⟩ := u_known (C := RX5) (T := TX5) (N := 10) hA inA5 (hA _ wi_X5); exact ⟨(c, i), fun q hq => by cases hq; exact h⟩
    | 6 => obtain ⟨c, i, h⟩ := u_known (C := RX6) (T := TX6) (N := 7) hA inA6 (hA _ wi_X6); exact ⟨(c, i), fun q hq => by cases hq; exact h⟩
    | 7 => obtain ⟨c, i, h⟩ := u_known (C := RX7) (T := TX7) (N := 6) hA inA7 (hA _ wi_X7); exact ⟨(c, i), fun q hq => by cases hq; exact h⟩
    | 8 => obtain ⟨c, i, h⟩ := u_known (C := RX8) (T := TX8) (N := 3) hA inA8 (hA _ wi_X8); exact ⟨(c, i), fun q hq => by cases hq; exact h⟩
    | 9 => obtain ⟨c, i, h⟩ := u_known (C := RX9) (T := TX9) (N := 8) hA inA9 (hA _ wi_X9); exact ⟨(c, i), fun q hq => by cases hq; exact h⟩
    | 10 => obtain ⟨c, i, h⟩ := u_known (C := RX10) (T := TX10) (N := 15) hA inA10 (hA _ wi_X10); exact ⟨(c, i), fun q hq => by cases hq; exact h⟩
    | k + 11 => exact ⟨(c0, i0), fun q hq => by cases hq⟩
  obtain ⟨f, hf⟩ := Classical.axiomOfChoice hk
  obtain ⟨o0, o3, o4, o5, o6⟩ := ent_OA hts
  obtain ⟨a0, x0, y0⟩ := arr_prim (hA _ wr_int)
  obtain ⟨a1, x1, y1⟩ := arr_prim (hA _ wr_char)
  obtain ⟨a2, x2, y2⟩ := arr_obj o3
  obtain ⟨a3, x3, y3⟩ := arr_obj o4
  obtain ⟨a4, x4, y4⟩ := arr_obj o6
  obtain ⟨a5, x5, y5⟩ := arr_obj o5
  obtain ⟨a6, x6, y6⟩ := arr_obj o0
  refine ⟨(g, t, (fun κ => (f κ).1, fun κ => (f κ).2), fun c => match c with | 0 => a0 | 1 => a1 | 2 => a2 | 3 => a3 | 4 => a4 | 5 => a5 | _ => a6), ⟨rfl, rfl⟩, ⟨fun c q hq => hf c q hq, fun k q hq => ?_⟩, ent_NW hts⟩
  match k with
  | 0 => cases hq; exact ⟨x0, y0⟩
  | 1 => cases hq; exact ⟨x1, y1⟩
  | 2 => cases hq; exact ⟨x2, y2⟩
  | 3 => cases hq; exact ⟨x3, y3⟩
  | 4 => cases hq; exact ⟨x4, y4⟩
  | 5 => cases hq; exact ⟨x5, y5⟩
  | 6 => cases hq; exact ⟨x6, y6⟩
  | k + 7 => cases hq
theorem ent_fees (hts : ∀ w ∈ lw_tbl, w.before args s = true) (hgv : (Jvm.Cond.and given_1 narrow_1).before args s = true) {A : Nat → Prop} (hA : ∀ a : Nat, a < s.heap.size → ¬ A a) : ∃ t : Nat, va_Z "PeerNotes" "FEES" "[I" (.ref t) A s s.heap ∧ va_T .int t 4 feeV A s s.heap := by
  have hs := flat_of_before _ hgv
  obtain ⟨t, h1, h2⟩ := va_Tof (tm := .static "PeerNotes" "FEES" "[I") (ty := .int) (N := 4) (f := feeV) (by decide) (hs _ (by decide +kernel)) (va_eqt (z := 4) (hs _ (by decide +kernel))) (fun j hj => by
    rcases (show j = 0 ∨ j = 1 ∨ j = 2 ∨ j = 3 by omega) with rfl | rfl | rfl | rfl
    · exact va_eqt (t := .elem (.static "PeerNotes" "FEES" "[I") (.int 0)) (z := 5) (hs _ (by decide +kernel))
    · exact va_eqt (t := .elem (.static "PeerNotes" "FEES" "[I") (.int 1)) (z := 10) (hs _ (by decide +kernel))
    · exact va_eqt (t := .elem (.static "PeerNotes" "FEES" "[I") (.int 2)) (z := 20) (hs _ (by decide +kernel))
    · exact va_eqt (t := .elem (.static "PeerNotes" "FEES" "[I") (.int 3)) (z := 40) (hs _ (by decide +kernel))) hA
  exact ⟨t, va_Zof (hts (.laysStatic "PeerNotes" "FEES" "[I") (by decide +kernel)) (hts (.initialized "PeerNotes") (by decide +kernel)) h1 hA, h2⟩
end ENTRY
end
