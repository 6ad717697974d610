/-! by program (wip/p28/walk.py): X5_writeOff X5_passMonth X5_notesFor X5_principalsOf X5_liveNotesOf X5_loansOf X5_loansInState X5_loansServedBy X5_loansInArrears X5_ordersOfSwitches X5_allPrincipals X5_allInterestDue X5_allLosses X9_feeOf X7_areOf X8_clear X8_weighPrincipals X8_ofGivingUp X8_shareOut X8_shareByClass X8_ofPayment X8_ofSale -/
def dc_X5_writeOff (j0 : Nat) (a1 : Int32) (σ : Sto) : Option (Int32 × Sto) :=
  wh2 (fun (rec1 : Int32 → Int32 → Sto → Option (Int32 × Sto)) (x3 : Int32) (x4 : Int32) (σ2 : Sto) => (if (σ2.1 86 j0 0) ≤ x4 then some (x3, σ2) else (if inb x4 60 then (if (σ2.1 97 j0 x4.toNatClampNeg) = a1 then (lt (up (up σ2 102 j0 x4.toNatClampNeg (σ2.1 99 j0 x4.toNatClampNeg)) 99 j0 x4.toNatClampNeg (0 : Int32)) fun σ6 => (bd (dc_X5_hasInvestor j0 (σ6.1 96 j0 x4.toNatClampNeg) σ6) fun r7 σ8 => (if r7 = 0 then rec1 (x3 + (σ6.1 102 j0 x4.toNatClampNeg)) (x4 + 1) σ8 else (if inb (σ8.1 96 j0 x4.toNatClampNeg) 8 then rec1 (x3 + (σ6.1 102 j0 x4.toNatClampNeg)) (x4 + 1) (up σ8 50 j0 ((σ8.1 96 j0 x4.toNatClampNeg).toNatClampNeg) ((σ8.1 50 j0 ((σ8.1 96 j0 x4.toNatClampNeg).toNatClampNeg)) + (σ8.1 102 j0 x4.toNatClampNeg))) else none)))) else rec1 x3 (x4 + 1) σ2) else none))) FU (0 : Int32) (0 : Int32) σ
set_option maxRecDepth 20000 in
set_option maxHeartbeats 4000000 in
theorem s_X5_writeOff {G : Gm} {d : Nat} (j0 : Nat) (a1 : Int32) (hj0 : j0 < 7) {σ τ : Sto} {r : Int32} (h : dc_X5_writeOff j0 a1 σ = some (r, τ)) : Cl G (d + 1) m_X5_writeOff [.ref (ad G 5 j0 0), .int a1] σ (some (.int r)) τ := by
  unfold dc_X5_writeOff at h
  refine Cl.mk (cc := cX5_writeOff) (own := RX5) (nL := 5) (ret := (some .int)) rfl rfl rfl rfl (by decide +kernel) (catA rfl) (Nat.le_of_ble_eq_true rfl) (fun X C => ?_)
  show V X G 0 0 (QE X G (some (.int r)) τ) σ 0 [some (.ref (ad G 5 j0 0)), some (.int a1), none, none, none] []
  refine v_iconst C dX5_writeOff_0 ki_0 ?_
  refine v_istore_n C dX5_writeOff_1 rfl (Nat.le_of_ble_eq_true rfl) (lc1 := [some (.ref (ad G 5 j0 0)), some (.int a1), some (.int (0 : Int32)), none, none]) rfl ?_
  refine v_iconst C dX5_writeOff_2 ki_0 ?_
  refine v_istore_n C dX5_writeOff_3 rfl (Nat.le_of_ble_eq_true rfl) (lc1 := [some (.ref (ad G 5 j0 0)), some (.int a1), some (.int (0 : Int32)), some (.int (0 : Int32)), none]) rfl ?_
  refine v_loop2 (fun x3 x4 σ2 => V X G 0 0 (QE X G (some (.int r)) τ) σ2 4 [some (.ref (ad G 5 j0 0)), some (.int a1), some (.int x3), some (.int x4), none] []) (fun rec1 hrec1 x3 x4 σ2 h => ?_) h
  refine v_iload_n C dX5_writeOff_4 rfl rfl ?_
  refine v_aload_n C dX5_writeOff_5 rfl rfl ?_
  refine gf_X5_43 C hj0 dX5_writeOff_6 ?_
  refine v_icmp_ge C dX5_writeOff_9 (tgt := 94) (by decide) h (fun h => ?_) (fun h => ?_)
  · refine v_iload_n C dX5_writeOff_94 rfl rfl ?_
    exact v_iret C dX5_writeOff_95 h
  · refine v_aload_n C dX5_writeOff_12 rfl rfl ?_
    refine gf_X5_25 C hj0 dX5_writeOff_13 ?_
    refine v_iload_n C dX5_writeOff_16 rfl rfl ?_
    refine lq_13 C hj0 dX5_writeOff_17 h (fun h hq5 => ?_)
    refine v_astore C dX5_writeOff_18 (Nat.le_of_ble_eq_true rfl) (lc1 := [some (.ref (ad G 5 j0 0)), some (.int a1), some (.int x3), some (.int x4), some (.ref (ad G 6 j0 x4.toNatClampNeg))]) rfl ?_
    refine v_aload C dX5_writeOff_20 rfl ?_
    refine gf_X5_124 C hj0 hq5 dX5_writeOff_22 ?_
    refine v_iload_n C dX5_writeOff_25 rfl rfl ?_
    refine v_icmp_ne C dX5_writeOff_26 (tgt := 88) (by decide) h (fun h => ?_) (fun h => ?_)
    · refine v_iinc C dX5_writeOff_88 rfl (kc_1 _) (lc1 := [some (.ref (ad G 5 j0 0)), some (.int a1), some (.int x3), some (.int (x4 + 1)), some (.ref (ad G 6 j0 x4.toNatClampNeg))]) rfl ?_
      refine v_goto C dX5_writeOff_91 (tgt := 4) (by decide) ?_
      refine v_mask [true, true, true, true, false] (lc' := [some (.ref (ad G 5 j0 0)), some (.int a1), some (.int x3), some (.int (x4 + 1)), none]) rfl ?_
      exact hrec1 _ _ _ h
    · refine v_aload C dX5_writeOff_29 rfl ?_
      refine v_aload C dX5_writeOff_31 rfl ?_
      refine gf_X5_127 C hj0 hq5 dX5_writeOff_33 ?_
      refine pf_X5_128 C hj0 hq5 dX5_writeOff_36 ?_
      refine v_aload C dX5_writeOff_39 rfl ?_
      refine v_iconst C dX5_writeOff_41 ki_0 ?_
      refine pf_X5_127 C hj0 hq5 dX5_writeOff_42 ?_
      refine v_lt h (fun σ6 h => ?_)
      refine v_iload_n C dX5_writeOff_45 rfl rfl ?_
      refine v_aload C dX5_writeOff_46 rfl ?_
      refine gf_X5_128 C hj0 hq5 dX5_writeOff_48 ?_
      refine v_iadd C dX5_writeOff_51 ?_
      refine v_istore_n C dX5_writeOff_52 rfl (Nat.le_of_ble_eq_true rfl) (lc1 := [some (.ref (ad G 5 j0 0)), some (.int a1), some (.int (x3 + (σ6.1 102 j0 x4.toNatClampNeg))), some (.int x4), some (.ref (ad G 6 j0 x4.toNatClampNeg))]) rfl ?_
      refine v_aload_n C dX5_writeOff_53 rfl rfl ?_
      refine v_aload C dX5_writeOff_54 rfl ?_
      refine gf_X5_131 C hj0 hq5 dX5_writeOff_56 ?_
      refine cVi C 5 j0 0 (av := [.int (σ6.1 96 j0 x4.toNatClampNeg)]) si_X5_hasInvestor lk_X5_75 (ok5 hj0) rfl rfl rfl rfl (st := []) rfl (Nat.le_of_ble_eq_true rfl) dX5_writeOff_59 h (fun _ _ hc => s_X5_hasInvestor (d := d) j0 (σ6.1 96 j0 x4.toNatClampNeg) hj0 hc) (fun r7 σ8 h => ?_)
      refine v_if_eq C dX5_writeOff_62 (tgt := 88) (by decide) h (fun h => ?_) (fun h => ?_)
      · refine v_iinc C dX5_writeOff_88 rfl (kc_1 _) (lc1 := [some (.ref (ad G 5 j0 0)), some (.int a1), some (.int (x3 + (σ6.1 102 j0 x4.toNatClampNeg))), some (.int (x4 + 1)), some (.ref (ad G 6 j0 x4.toNatClampNeg))]) rfl ?_
        refine v_goto C dX5_writeOff_91 (tgt := 4) (by decide) ?_
        refine v_mask [true, true, true, true, false] (lc' := [some (.ref (ad G 5 j0 0)), some (.int a1), some (.int (x3 + (σ6.1 102 j0 x4.toNatClampNeg))), some (.int (x4 + 1)), none]) rfl ?_
        exact hrec1 _ _ _ h
      · refine v_aload_n C dX5_writeOff_65 rfl rfl ?_
        refine gf_X5_11 C hj0 dX5_writeOff_66 ?_
        refine v_aload C dX5_writeOff_69 rfl ?_
        refine gf_X5_131 C hj0 hq5 dX5_writeOff_71 ?_
        refine lq_11 C hj0 dX5_writeOff_74 h (fun h hq9 => ?_)
        refine v_dup C dX5_writeOff_75 rfl ?_
        refine gf_X5_134 C hj0 hq9 dX5_writeOff_76 ?_
        refine v_aload C dX5_writeOff_79 rfl ?_
        refine gf_X5_128 C hj0 hq5 dX5_writeOff_81 ?_
        refine v_iadd C dX5_writeOff_84 ?_
        refine pf_X5_134 C hj0 hq9 dX5_writeOff_85 ?_
        refine v_iinc C dX5_writeOff_88 rfl (kc_1 _) (lc1 := [some (.ref (ad G 5 j0 0)), some (.int a1), some (.int (x3 + (σ6.1 102 j0 x4.toNatClampNeg))), some (.int (x4 + 1)), some (.ref (ad G 6 j0 x4.toNatClampNeg))]) rfl ?_
        refine v_goto C dX5_writeOff_91 (tgt := 4) (by decide) ?_
        refine v_mask [true, true, true, true, false] (lc' := [some (.ref (ad G 5 j0 0)), some (.int a1), some (.int (x3 + (σ6.1 102 j0 x4.toNatClampNeg))), some (.int (x4 + 1)), none]) rfl ?_
        exact hrec1 _ _ _ h

def dc_X5_passMonth (j0 : Nat) (σ : Sto) : Option Sto :=
  wh1 (fun (rec1 : Int32 → Sto → Option Sto) (x3 : Int32) (σ2 : Sto) => (if (σ2.1 85 j0 0) ≤ x3 then some σ2 else (bd (dc_X5_runs j0 x3 σ2) fun r4 σ5 => (if r4 = 0 then rec1 (x3 + 1) σ5 else (if inb x3 10 then (bv (dc_X4_passMonth j0 x3.toNatClampNeg σ5) fun σ8 => rec1 (x3 + 1) σ8) else none))))) FU (0 : Int32) (up σ 87 j0 0 ((σ.1 87 j0 0) + (1 : Int32)))
set_option maxRecDepth 20000 in
set_option maxHeartbeats 4000000 in
theorem s_X5_passMonth {G : Gm} {d : Nat} (j0 : Nat) (hj0 : j0 < 7) {σ τ : Sto} (h : dc_X5_passMonth j0 σ = some τ) : Cl G (d + 2) m_X5_passMonth [.ref (ad G 5 j0 0)] σ none τ := by
  unfold dc_X5_passMonth at h
  refine Cl.mk (cc := cX5_passMonth) (own := RX5) (nL := 2) (ret := none) rfl rfl rfl rfl (by decide +kernel) (catA rfl) (Nat.le_of_ble_eq_true rfl) (fun X C => ?_)
  show V X G 0 0 (QE X G none τ) σ 0 [some (.ref (ad G 5 j0 0)), none] []
  refine v_aload_n C dX5_passMonth_0 rfl rfl ?_
  refine v_dup C dX5_passMonth_1 rfl ?_
  refine gf_X5_46 C hj0 dX5_passMonth_2 ?_
  refine v_iconst C dX5_passMonth_5 ki_1 ?_
  refine v_iadd C dX5_passMonth_6 ?_
  refine pf_X5_46 C hj0 dX5_passMonth_7 ?_
  refine v_iconst C dX5_passMonth_10 ki_0 ?_
  refine v_istore_n C dX5_passMonth_11 rfl (Nat.le_of_ble_eq_true rfl) (lc1 := [some (.ref (ad G 5 j0 0)), some (.int (0 : Int32))]) rfl ?_
  refine v_loop1 (fun x3 σ2 => V X G 0 0 (QE X G none τ) σ2 12 [some (.ref (ad G 5 j0 0)), some (.int x3)] []) (fun rec1 hrec1 x3 σ2 h => ?_) h
  refine v_iload_n C dX5_passMonth_12 rfl rfl ?_
  refine v_aload_n C dX5_passMonth_13 rfl rfl ?_
  refine gf_X5_40 C hj0 dX5_passMonth_14 ?_
  refine v_icmp_ge C dX5_passMonth_17 (tgt := 43) (by decide) h (fun h => ?_) (fun h => ?_)
  · exact v_vret C dX5_passMonth_43 h
  · refine v_aload_n C dX5_passMonth_20 rfl rfl ?_
    refine v_iload_n C dX5_passMonth_21 rfl rfl ?_
    refine cVi C 5 j0 0 (av := [.int x3]) si_X5_runs lk_X5_137 (ok5 hj0) rfl rfl rfl rfl (st := []) rfl (Nat.le_of_ble_eq_true rfl) dX5_passMonth_22 h (fun _ _ hc => s_X5_runs (d := d) j0 x3 hj0 hc) (fun r4 σ5 h => ?_)
    refine v_if_eq C dX5_passMonth_25 (tgt := 37) (by decide) h (fun h => ?_) (fun h => ?_)
    · refine v_iinc C dX5_passMonth_37 rfl (kc_1 _) (lc1 := [some (.ref (ad G 5 j0 0)), some (.int (x3 + 1))]) rfl ?_
      refine v_goto C dX5_passMonth_40 (tgt := 12) (by decide) ?_
      refine v_mask [true, true] (lc' := [some (.ref (ad G 5 j0 0)), some (.int (x3 + 1))]) rfl ?_
      exact hrec1 _ _ h
    · refine v_aload_n C dX5_passMonth_28 rfl rfl ?_
      refine gf_X5_19 C hj0 dX5_passMonth_29 ?_
      refine v_iload_n C dX5_passMonth_32 rfl rfl ?_
      refine lq_12 C hj0 dX5_passMonth_33 h (fun h hq6 => ?_)
      refine cVv C 4 j0 x3.toNatClampNeg (av := []) si_X4_passMonth lk_X5_140 (ok4 hj0 hq6) rfl rfl rfl rfl (st := []) rfl (Nat.le_of_ble_eq_true rfl) dX5_passMonth_34 h (fun _ hc => s_X4_passMonth (d := d) j0 x3.toNatClampNeg hj0 hq6 hc) (fun σ8 h => ?_)
      refine v_iinc C dX5_passMonth_37 rfl (kc_1 _) (lc1 := [some (.ref (ad G 5 j0 0)), some (.int (x3 + 1))]) rfl ?_
      refine v_goto C dX5_passMonth_40 (tgt := 12) (by decide) ?_
      refine v_mask [true, true] (lc' := [some (.ref (ad G 5 j0 0)), some (.int (x3 + 1))]) rfl ?_
      exact hrec1 _ _ h

def dc_X5_notesFor (j0 : Nat) (a1 : Int32) (σ : Sto) : Option (Int32 × Sto) :=
  wh2 (fun (rec1 : Int32 → Int32 → Sto → Option (Int32 × Sto)) (x3 : Int32) (x4 : Int32) (σ2 : Sto) => (if (σ2.1 86 j0 0) ≤ x4 then some (x3, σ2) else (if inb x4 60 then (if (σ2.1 97 j0 x4.toNatClampNeg) = a1 then rec1 (x3 + 1) (x4 + 1) σ2 else rec1 x3 (x4 + 1) σ2) else none))) FU (0 : Int32) (0 : Int32) σ
set_option maxRecDepth 20000 in
set_option maxHeartbeats 4000000 in
theorem s_X5_notesFor {G : Gm} {d : Nat} (j0 : Nat) (a1 : Int32) (hj0 : j0 < 7) {σ τ : Sto} {r : Int32} (h : dc_X5_notesFor j0 a1 σ = some (r, τ)) : Cl G d m_X5_notesFor [.ref (ad G 5 j0 0), .int a1] σ (some (.int r)) τ := by
  unfold dc_X5_notesFor at h
  refine Cl.mk (cc := cX5_notesFor) (own := RX5) (nL := 4) (ret := (some .int)) rfl rfl rfl rfl (by decide +kernel) (catA rfl) (Nat.le_of_ble_eq_true rfl) (fun X C => ?_)
  show V X G 0 0 (QE X G (some (.int r)) τ) σ 0 [some (.ref (ad G 5 j0 0)), some (.int a1), none, none] []
  refine v_iconst C dX5_notesFor_0 ki_0 ?_
  refine v_istore_n C dX5_notesFor_1 rfl (Nat.le_of_ble_eq_true rfl) (lc1 := [some (.ref (ad G 5 j0 0)), some (.int a1), some (.int (0 : Int32)), none]) rfl ?_
  refine v_iconst C dX5_notesFor_2 ki_0 ?_
  refine v_istore_n C dX5_notesFor_3 rfl (Nat.le_of_ble_eq_true rfl) (lc1 := [some (.ref (ad G 5 j0 0)), some (.int a1), some (.int (0 : Int32)), some (.int (0 : Int32))]) rfl ?_
  refine v_loop2 (fun x3 x4 σ2 => V X G 0 0 (QE X G (some (.int r)) τ) σ2 4 [some (.ref (ad G 5 j0 0)), some (.int a1), some (.int x3), some (.int x4)] []) (fun rec1 hrec1 x3 x4 σ2 h => ?_) h
  refine v_iload_n C dX5_notesFor_4 rfl rfl ?_
  refine v_aload_n C dX5_notesFor_5 rfl rfl ?_
  refine gf_X5_43 C hj0 dX5_notesFor_6 ?_
  refine v_icmp_ge C dX5_notesFor_9 (tgt := 34) (by decide) h (fun h => ?_) (fun h => ?_)
  · refine v_iload_n C dX5_notesFor_34 rfl rfl ?_
    exact v_iret C dX5_notesFor_35 h
  · refine v_aload_n C dX5_notesFor_12 rfl rfl ?_
    refine gf_X5_25 C hj0 dX5_notesFor_13 ?_
    refine v_iload_n C dX5_notesFor_16 rfl rfl ?_
    refine lq_13 C hj0 dX5_notesFor_17 h (fun h hq5 => ?_)
    refine gf_X5_124 C hj0 hq5 dX5_notesFor_18 ?_
    refine v_iload_n C dX5_notesFor_21 rfl rfl ?_
    refine v_icmp_ne C dX5_notesFor_22 (tgt := 28) (by decide) h (fun h => ?_) (fun h => ?_)
    · refine v_iinc C dX5_notesFor_28 rfl (kc_1 _) (lc1 := [some (.ref (ad G 5 j0 0)), some (.int a1), some (.int x3), some (.int (x4 + 1))]) rfl ?_
      refine v_goto C dX5_notesFor_31 (tgt := 4) (by decide) ?_
      refine v_mask [true, true, true, true] (lc' := [some (.ref (ad G 5 j0 0)), some (.int a1), some (.int x3), some (.int (x4 + 1))]) rfl ?_
      exact hrec1 _ _ _ h
    · refine v_iinc C dX5_notesFor_25 rfl (kc_1 _) (lc1 := [some (.ref (ad G 5 j0 0)), some (.int a1), some (.int (x3 + 1)), some (.int x4)]) rfl ?_
      refine v_iinc C dX5_notesFor_28 rfl (kc_1 _) (lc1 := [some (.ref (ad G 5 j0 0)), some (.int a1), some (.int (x3 + 1)), some (.int (x4 + 1))]) rfl ?_
      refine v_goto C dX5_notesFor_31 (tgt := 4) (by decide) ?_
      refine v_mask [true, true, true, true] (lc' := [some (.ref (ad G 5 j0 0)), some (.int a1), some (.int (x3 + 1)), some (.int (x4 + 1))]) rfl ?_
      exact hrec1 _ _ _ h

def dc_X5_principalsOf (j0 : Nat) (a1 : Int32) (σ : Sto) : Option (Int32 × Sto) :=
  wh2 (fun (rec1 : Int32 → Int32 → Sto → Option (Int32 × Sto)) (x3 : Int32) (x4 : Int32) (σ2 : Sto) => (if (σ2.1 86 j0 0) ≤ x4 then some (x3, σ2) else (if inb x4 60 then (if (σ2.1 96 j0 x4.toNatClampNeg) = a1 then (if inb x4 60 then rec1 (x3 + (σ2.1 99 j0 x4.toNatClampNeg)) (x4 + 1) σ2 else none) else rec1 x3 (x4 + 1) σ2) else none))) FU (0 : Int32) (0 : Int32) σ
set_option maxRecDepth 20000 in
set_option maxHeartbeats 4000000 in
theorem s_X5_principalsOf {G : Gm} {d : Nat} (j0 : Nat) (a1 : Int32) (hj0 : j0 < 7) {σ τ : Sto} {r : Int32} (h : dc_X5_principalsOf j0 a1 σ = some (r, τ)) : Cl G d m_X5_principalsOf [.ref (ad G 5 j0 0), .int a1] σ (some (.int r)) τ := by
  unfold dc_X5_principalsOf at h
  refine Cl.mk (cc := cX5_principalsOf) (own := RX5) (nL := 4) (ret := (some .int)) rfl rfl rfl rfl (by decide +kernel) (catA rfl) (Nat.le_of_ble_eq_true rfl) (fun X C => ?_)
  show V X G 0 0 (QE X G (some (.int r)) τ) σ 0 [some (.ref (ad G 5 j0 0)), some (.int a1), none, none] []
  refine v_iconst C dX5_principalsOf_0 ki_0 ?_
  refine v_istore_n C dX5_principalsOf_1 rfl (Nat.le_of_ble_eq_true rfl) (lc1 := [some (.ref (ad G 5 j0 0)), some (.int a1), some (.int (0 : Int32)), none]) rfl ?_
  refine v_iconst C dX5_principalsOf_2 ki_0 ?_
  refine v_istore_n C dX5_principalsOf_3 rfl (Nat.le_of_ble_eq_true rfl) (lc1 := [some (.ref (ad G 5 j0 0)), some (.int a1), some (.int (0 : Int32)), some (.int (0 : Int32))]) rfl ?_
  refine v_loop2 (fun x3 x4 σ2 => V X G 0 0 (QE X G (some (.int r)) τ) σ2 4 [some (.ref (ad G 5 j0 0)), some (.int a1), some (.int x3), some (.int x4)] []) (fun rec1 hrec1 x3 x4 σ2 h => ?_) h
  refine v_iload_n C dX5_principalsOf_4 rfl rfl ?_
  refine v_aload_n C dX5_principalsOf_5 rfl rfl ?_
  refine gf_X5_43 C hj0 dX5_principalsOf_6 ?_
  refine v_icmp_ge C dX5_principalsOf_9 (tgt := 43) (by decide) h (fun h => ?_) (fun h => ?_)
  · refine v_iload_n C dX5_principalsOf_43 rfl rfl ?_
    exact v_iret C dX5_principalsOf_44 h
  · refine v_aload_n C dX5_principalsOf_12 rfl rfl ?_
    refine gf_X5_25 C hj0 dX5_principalsOf_13 ?_
    refine v_iload_n C dX5_principalsOf_16 rfl rfl ?_
    refine lq_13 C hj0 dX5_principalsOf_17 h (fun h hq5 => ?_)
    refine gf_X5_131 C hj0 hq5 dX5_principalsOf_18 ?_
    refine v_iload_n C dX5_principalsOf_21 rfl rfl ?_
    refine v_icmp_ne C dX5_principalsOf_22 (tgt := 37) (by decide) h (fun h => ?_) (fun h => ?_)
    · refine v_iinc C dX5_principalsOf_37 rfl (kc_1 _) (lc1 := [some (.ref (ad G 5 j0 0)), some (.int a1), some (.int x3), some (.int (x4 + 1))]) rfl ?_
      refine v_goto C dX5_principalsOf_40 (tgt := 4) (by decide) ?_
      refine v_mask [true, true, true, true] (lc' := [some (.ref (ad G 5 j0 0)), some (.int a1), some (.int x3), some (.int (x4 + 1))]) rfl ?_
      exact hrec1 _ _ _ h
    · refine v_iload_n C dX5_principalsOf_25 rfl rfl ?_
      refine v_aload_n C dX5_principalsOf_26 rfl rfl ?_
      refine gf_X5_25 C hj0 dX5_principalsOf_27 ?_
      refine v_iload_n C dX5_principalsOf_30 rfl rfl ?_
      refine lq_13 C hj0 dX5_principalsOf_31 h (fun h hq6 => ?_)
      refine gf_X5_127 C hj0 hq6 dX5_principalsOf_32 ?_
      refine v_iadd C dX5_principalsOf_35 ?_
      refine v_istore_n C dX5_principalsOf_36 rfl (Nat.le_of_ble_eq_true rfl) (lc1 := [some (.ref (ad G 5 j0 0)), some (.int a1), some (.int (x3 + (σ2.1 99 j0 x4.toNatClampNeg))), some (.int x4)]) rfl ?_
      refine v_iinc C dX5_principalsOf_37 rfl (kc_1 _) (lc1 := [some (.ref (ad G 5 j0 0)), some (.int a1), some (.int (x3 + (σ2.1 99 j0 x4.toNatClampNeg))), some (.int (x4 + 1))]) rfl ?_
      refine v_goto C dX5_principalsOf_40 (tgt := 4) (by decide) ?_
      refine v_mask [true, true, true, true] (lc' := [some (.ref (ad G 5 j0 0)), some (.int a1), some (.int (x3 + (σ2.1 99 j0 x4.toNatClampNeg))), some (.int (x4 + 1))]) rfl ?_
      exact hrec1 _ _ _ h

def dc_X5_liveNotesOf (j0 : Nat) (a1 : Int32) (σ : Sto) : Option (Int32 × Sto) :=
  wh2 (fun (rec1 : Int32 → Int32 → Sto → Option (Int32 × Sto)) (x3 : Int32) (x4 : Int32) (σ2 : Sto) => (if (σ2.1 86 j0 0) ≤ x4 then some (x3, σ2) else (if inb x4 60 then (if (σ2.1 96 j0 x4.toNatClampNeg) = a1 then (if inb x4 60 then (if (σ2.1 99 j0 x4.toNatClampNeg) = 0 then rec1 x3 (x4 + 1) σ2 else rec1 (x3 + 1) (x4 + 1) σ2) else none) else rec1 x3 (x4 + 1) σ2) else none))) FU (0 : Int32) (0 : Int32) σ
set_option maxRecDepth 20000 in
set_option maxHeartbeats 4000000 in
theorem s_X5_liveNotesOf {G : Gm} {d : Nat} (j0 : Nat) (a1 : Int32) (hj0 : j0 < 7) {σ τ : Sto} {r : Int32} (h : dc_X5_liveNotesOf j0 a1 σ = some (r, τ)) : Cl G d m_X5_liveNotesOf [.ref (ad G 5 j0 0), .int a1] σ (some (.int r)) τ := by
  unfold dc_X5_liveNotesOf at h
  refine Cl.mk (cc := cX5_liveNotesOf) (own := RX5) (nL := 4) (ret := (some .int)) rfl rfl rfl rfl (by decide +kernel) (catA rfl) (Nat.le_of_ble_eq_true rfl) (fun X C => ?_)
  show V X G 0 0 (QE X G (some (.int r)) τ) σ 0 [some (.ref (ad G 5 j0 0)), some (.int a1), none, none] []
  refine v_iconst C dX5_liveNotesOf_0 ki_0 ?_
  refine v_istore_n C dX5_liveNotesOf_1 rfl (Nat.le_of_ble_eq_true rfl) (lc1 := [some (.ref (ad G 5 j0 0)), some (.int a1), some (.int (0 : Int32)), none]) rfl ?_
  refine v_iconst C dX5_liveNotesOf_2 ki_0 ?_
  refine v_istore_n C dX5_liveNotesOf_3 rfl (Nat.le_of_ble_eq_true rfl) (lc1 := [some (.ref (ad G 5 j0 0)), some (.int a1), some (.int (0 : Int32)), some (.int (0 : Int32))]) rfl ?_
  refine v_loop2 (fun x3 x4 σ2 => V X G 0 0 (QE X G (some (.int r)) τ) σ2 4 [some (.ref (ad G 5 j0 0)), some (.int a1), some (.int x3), some (.int x4)] []) (fun rec1 hrec1 x3 x4 σ2 h => ?_) h
  refine v_iload_n C dX5_liveNotesOf_4 rfl rfl ?_
  refine v_aload_n C dX5_liveNotesOf_5 rfl rfl ?_
  refine gf_X5_43 C hj0 dX5_liveNotesOf_6 ?_
  refine v_icmp_ge C dX5_liveNotesOf_9 (tgt := 46) (by decide) h (fun h => ?_) (fun h => ?_)
  · refine v_iload_n C dX5_liveNotesOf_46 rfl rfl ?_
    exact v_iret C dX5_liveNotesOf_47 h
  · refine v_aload_n C dX5_liveNotesOf_12 rfl rfl ?_
    refine gf_X5_25 C hj0 dX5_liveNotesOf_13 ?_
    refine v_iload_n C dX5_liveNotesOf_16 rfl rfl ?_
    refine lq_13 C hj0 dX5_liveNotesOf_17 h (fun h hq5 => ?_)
    refine gf_X5_131 C hj0 hq5 dX5_liveNotesOf_18 ?_
    refine v_iload_n C dX5_liveNotesOf_21 rfl rfl ?_
    refine v_icmp_ne C dX5_liveNotesOf_22 (tgt := 40) (by decide) h (fun h => ?_) (fun h => ?_)
    · refine v_iinc C dX5_liveNotesOf_40 rfl (kc_1 _) (lc1 := [some (.ref (ad G 5 j0 0)), some (.int a1), some (.int x3), some (.int (x4 + 1))]) rfl ?_
      refine v_goto C dX5_liveNotesOf_43 (tgt := 4) (by decide) ?_
      refine v_mask [true, true, true, true] (lc' := [some (.ref (ad G 5 j0 0)), some (.int a1), some (.int x3), some (.int (x4 + 1))]) rfl ?_
      exact hrec1 _ _ _ h
    · refine v_aload_n C dX5_liveNotesOf_25 rfl rfl ?_
      refine gf_X5_25 C hj0 dX5_liveNotesOf_26 ?_
      refine v_iload_n C dX5_liveNotesOf_29 rfl rfl ?_
      refine lq_13 C hj0 dX5_liveNotesOf_30 h (fun h hq6 => ?_)
      refine gf_X5_127 C hj0 hq6 dX5_liveNotesOf_31 ?_
      refine v_if_eq C dX5_liveNotesOf_34 (tgt := 40) (by decide) h (fun h => ?_) (fun h => ?_)
      · refine v_iinc C dX5_liveNotesOf_40 rfl (kc_1 _) (lc1 := [some (.ref (ad G 5 j0 0)), some (.int a1), some (.int x3), some (.int (x4 + 1))]) rfl ?_
        refine v_goto C dX5_liveNotesOf_43 (tgt := 4) (by decide) ?_
        refine v_mask [true, true, true, true] (lc' := [some (.ref (ad G 5 j0 0)), some (.int a1), some (.int x3), some (.int (x4 + 1))]) rfl ?_
        exact hrec1 _ _ _ h
      · refine v_iinc C dX5_liveNotesOf_37 rfl (kc_1 _) (lc1 := [some (.ref (ad G 5 j0 0)), some (.int a1), some (.int (x3 + 1)), some (.int x4)]) rfl ?_
        refine v_iinc C dX5_liveNotesOf_40 rfl (kc_1 _) (lc1 := [some (.ref (ad G 5 j0 0)), some (.int a1), some (.int (x3 + 1)), some (.int (x4 + 1))]) rfl ?_
        refine v_goto C dX5_liveNotesOf_43 (tgt := 4) (by decide) ?_
        refine v_mask [true, true, true, true] (lc' := [some (.ref (ad G 5 j0 0)), some (.int a1), some (.int (x3 + 1)), some (.int (x4 + 1))]) rfl ?_
        exact hrec1 _ _ _ h

def dc_X5_loansOf (j0 : Nat) (a1 : Int32) (σ : Sto) : Option (Int32 × Sto) :=
  wh2 (fun (rec1 : Int32 → Int32 → Sto → Option (Int32 × Sto)) (x3 : Int32) (x4 : Int32) (σ2 : Sto) => (if (σ2.1 86 j0 0) ≤ x4 then some (x3, σ2) else (if inb x4 60 then (if (σ2.1 96 j0 x4.toNatClampNeg) = a1 then (if inb x4 60 then (if (σ2.1 99 j0 x4.toNatClampNeg) = 0 then rec1 x3 (x4 + 1) σ2 else (if inb x4 60 then rec1 (x3 ||| ((1 : Int32) <<< ((σ2.1 97 j0 x4.toNatClampNeg) &&& 31))) (x4 + 1) σ2 else none)) else none) else rec1 x3 (x4 + 1) σ2) else none))) FU (0 : Int32) (0 : Int32) σ
set_option maxRecDepth 20000 in
set_option maxHeartbeats 4000000 in
theorem s_X5_loansOf {G : Gm} {d : Nat} (j0 : Nat) (a1 : Int32) (hj0 : j0 < 7) {σ τ : Sto} {r : Int32} (h : dc_X5_loansOf j0 a1 σ = some (r, τ)) : Cl G d m_X5_loansOf [.ref (ad G 5 j0 0), .int a1] σ (some (.int r)) τ := by
  unfold dc_X5_loansOf at h
  refine Cl.mk (cc := cX5_loansOf) (own := RX5) (nL := 4) (ret := (some .int)) rfl rfl rfl rfl (by decide +kernel) (catA rfl) (Nat.le_of_ble_eq_true rfl) (fun X C => ?_)
  show V X G 0 0 (QE X G (some (.int r)) τ) σ 0 [some (.ref (ad G 5 j0 0)), some (.int a1), none, none] []
  refine v_iconst C dX5_loansOf_0 ki_0 ?_
  refine v_istore_n C dX5_loansOf_1 rfl (Nat.le_of_ble_eq_true rfl) (lc1 := [some (.ref (ad G 5 j0 0)), some (.int a1), some (.int (0 : Int32)), none]) rfl ?_
  refine v_iconst C dX5_loansOf_2 ki_0 ?_
  refine v_istore_n C dX5_loansOf_3 rfl (Nat.le_of_ble_eq_true rfl) (lc1 := [some (.ref (ad G 5 j0 0)), some (.int a1), some (.int (0 : Int32)), some (.int (0 : Int32))]) rfl ?_
  refine v_loop2 (fun x3 x4 σ2 => V X G 0 0 (QE X G (some (.int r)) τ) σ2 4 [some (.ref (ad G 5 j0 0)), some (.int a1), some (.int x3), some (.int x4)] []) (fun rec1 hrec1 x3 x4 σ2 h => ?_) h
  refine v_iload_n C dX5_loansOf_4 rfl rfl ?_
  refine v_aload_n C dX5_loansOf_5 rfl rfl ?_
  refine gf_X5_43 C hj0 dX5_loansOf_6 ?_
  refine v_icmp_ge C dX5_loansOf_9 (tgt := 57) (by decide) h (fun h => ?_) (fun h => ?_)
  · refine v_iload_n C dX5_loansOf_57 rfl rfl ?_
    exact v_iret C dX5_loansOf_58 h
  · refine v_aload_n C dX5_loansOf_12 rfl rfl ?_
    refine gf_X5_25 C hj0 dX5_loansOf_13 ?_
    refine v_iload_n C dX5_loansOf_16 rfl rfl ?_
    refine lq_13 C hj0 dX5_loansOf_17 h (fun h hq5 => ?_)
    refine gf_X5_131 C hj0 hq5 dX5_loansOf_18 ?_
    refine v_iload_n C dX5_loansOf_21 rfl rfl ?_
    refine v_icmp_ne C dX5_loansOf_22 (tgt := 51) (by decide) h (fun h => ?_) (fun h => ?_)
    · refine v_iinc C dX5_loansOf_51 rfl (kc_1 _) (lc1 := [some (.ref (ad G 5 j0 0)), some (.int a1), some (.int x3), some (.int (x4 + 1))]) rfl ?_
      refine v_goto C dX5_loansOf_54 (tgt := 4) (by decide) ?_
      refine v_mask [true, true, true, true] (lc' := [some (.ref (ad G 5 j0 0)), some (.int a1), some (.int x3), some (.int (x4 + 1))]) rfl ?_
      exact hrec1 _ _ _ h
    · refine v_aload_n C dX5_loansOf_25 rfl rfl ?_
      refine gf_X5_25 C hj0 dX5_loansOf_26 ?_
      refine v_iload_n C dX5_loansOf_29 rfl rfl ?_
      refine lq_13 C hj0 dX5_loansOf_30 h (fun h hq6 => ?_)
      refine gf_X5_127 C hj0 hq6 dX5_loansOf_31 ?_
      refine v_if_eq C dX5_loansOf_34 (tgt := 51) (by decide) h (fun h => ?_) (fun h => ?_)
      · refine v_iinc C dX5_loansOf_51 rfl (kc_1 _) (lc1 := [some (.ref (ad G 5 j0 0)), some (.int a1), some (.int x3), some (.int (x4 + 1))]) rfl ?_
        refine v_goto C dX5_loansOf_54 (tgt := 4) (by decide) ?_
        refine v_mask [true, true, true, true] (lc' := [some (.ref (ad G 5 j0 0)), some (.int a1), some (.int x3), some (.int (x4 + 1))]) rfl ?_
        exact hrec1 _ _ _ h
      · refine v_iload_n C dX5_loansOf_37 rfl rfl ?_
        refine v_iconst C dX5_loansOf_38 ki_1 ?_
        refine v_aload_n C dX5_loansOf_39 rfl rfl ?_
        refine gf_X5_25 C hj0 dX5_loansOf_40 ?_
        refine v_iload_n C dX5_loansOf_43 rfl rfl ?_
        refine lq_13 C hj0 dX5_loansOf_44 h (fun h hq7 => ?_)
        refine gf_X5_124 C hj0 hq7 dX5_loansOf_45 ?_
        refine v_ishl C dX5_loansOf_48 ?_
        refine v_ior C dX5_loansOf_49 ?_
        refine v_istore_n C dX5_loansOf_50 rfl (Nat.le_of_ble_eq_true rfl) (lc1 := [some (.ref (ad G 5 j0 0)), some (.int a1), some (.int (x3 ||| ((1 : Int32) <<< ((σ2.1 97 j0 x4.toNatClampNeg) &&& 31)))), some (.int x4)]) rfl ?_
        refine v_iinc C dX5_loansOf_51 rfl (kc_1 _) (lc1 := [some (.ref (ad G 5 j0 0)), some (.int a1), some (.int (x3 ||| ((1 : Int32) <<< ((σ2.1 97 j0 x4.toNatClampNeg) &&& 31)))), some (.int (x4 + 1))]) rfl ?_
        refine v_goto C dX5_loansOf_54 (tgt := 4) (by decide) ?_
        refine v_mask [true, true, true, true] (lc' := [some (.ref (ad G 5 j0 0)), some (.int a1), some (.int (x3 ||| ((1 : Int32) <<< ((σ2.1 97 j0 x4.toNatClampNeg) &&& 31)))), some (.int (x4 + 1))]) rfl ?_
        exact hrec1 _ _ _ h

def dc_X5_loansInState (j0 : Nat) (a1 : Int32) (σ : Sto) : Option (Int32 × Sto) :=
  wh2 (fun (rec1 : Int32 → Int32 → Sto → Option (Int32 × Sto)) (x3 : Int32) (x4 : Int32) (σ2 : Sto) => (if (σ2.1 85 j0 0) ≤ x4 then some (x3, σ2) else (if inb x4 10 then (if (σ2.1 64 j0 x4.toNatClampNeg) = a1 then rec1 (x3 + 1) (x4 + 1) σ2 else rec1 x3 (x4 + 1) σ2) else none))) FU (0 : Int32) (0 : Int32) σ
set_option maxRecDepth 20000 in
set_option maxHeartbeats 4000000 in
theorem s_X5_loansInState {G : Gm} {d : Nat} (j0 : Nat) (a1 : Int32) (hj0 : j0 < 7) {σ τ : Sto} {r : Int32} (h : dc_X5_loansInState j0 a1 σ = some (r, τ)) : Cl G d m_X5_loansInState [.ref (ad G 5 j0 0), .int a1] σ (some (.int r)) τ := by
  unfold dc_X5_loansInState at h
  refine Cl.mk (cc := cX5_loansInState) (own := RX5) (nL := 4) (ret := (some .int)) rfl rfl rfl rfl (by decide +kernel) (catA rfl) (Nat.le_of_ble_eq_true rfl) (fun X C => ?_)
  show V X G 0 0 (QE X G (some (.int r)) τ) σ 0 [some (.ref (ad G 5 j0 0)), some (.int a1), none, none] []
  refine v_iconst C dX5_loansInState_0 ki_0 ?_
  refine v_istore_n C dX5_loansInState_1 rfl (Nat.le_of_ble_eq_true rfl) (lc1 := [some (.ref (ad G 5 j0 0)), some (.int a1), some (.int (0 : Int32)), none]) rfl ?_
  refine v_iconst C dX5_loansInState_2 ki_0 ?_
  refine v_istore_n C dX5_loansInState_3 rfl (Nat.le_of_ble_eq_true rfl) (lc1 := [some (.ref (ad G 5 j0 0)), some (.int a1), some (.int (0 : Int32)), some (.int (0 : Int32))]) rfl ?_
  refine v_loop2 (fun x3 x4 σ2 => V X G 0 0 (QE X G (some (.int r)) τ) σ2 4 [some (.ref (ad G 5 j0 0)), some (.int a1), some (.int x3), some (.int x4)] []) (fun rec1 hrec1 x3 x4 σ2 h => ?_) h
  refine v_iload_n C dX5_loansInState_4 rfl rfl ?_
  refine v_aload_n C dX5_loansInState_5 rfl rfl ?_
  refine gf_X5_40 C hj0 dX5_loansInState_6 ?_
  refine v_icmp_ge C dX5_loansInState_9 (tgt := 34) (by decide) h (fun h => ?_) (fun h => ?_)
  · refine v_iload_n C dX5_loansInState_34 rfl rfl ?_
    exact v_iret C dX5_loansInState_35 h
  · refine v_aload_n C dX5_loansInState_12 rfl rfl ?_
    refine gf_X5_19 C hj0 dX5_loansInState_13 ?_
    refine v_iload_n C dX5_loansInState_16 rfl rfl ?_
    refine lq_12 C hj0 dX5_loansInState_17 h (fun h hq5 => ?_)
    refine gf_X5_72 C hj0 hq5 dX5_loansInState_18 ?_
    refine v_iload_n C dX5_loansInState_21 rfl rfl ?_
    refine v_icmp_ne C dX5_loansInState_22 (tgt := 28) (by decide) h (fun h => ?_) (fun h => ?_)
    · refine v_iinc C dX5_loansInState_28 rfl (kc_1 _) (lc1 := [some (.ref (ad G 5 j0 0)), some (.int a1), some (.int x3), some (.int (x4 + 1))]) rfl ?_
      refine v_goto C dX5_loansInState_31 (tgt := 4) (by decide) ?_
      refine v_mask [true, true, true, true] (lc' := [some (.ref (ad G 5 j0 0)), some (.int a1), some (.int x3), some (.int (x4 + 1))]) rfl ?_
      exact hrec1 _ _ _ h
    · refine v_iinc C dX5_loansInState_25 rfl (kc_1 _) (lc1 := [some (.ref (ad G 5 j0 0)), some (.int a1), some (.int (x3 + 1)), some (.int x4)]) rfl ?_
      refine v_iinc C dX5_loansInState_28 rfl (kc_1 _) (lc1 := [some (.ref (ad G 5 j0 0)), some (.int a1), some (.int (x3 + 1)), some (.int (x4 + 1))]) rfl ?_
      refine v_goto C dX5_loansInState_31 (tgt := 4) (by decide) ?_
      refine v_mask [true, true, true, true] (lc' := [some (.ref (ad G 5 j0 0)), some (.int a1), some (.int (x3 + 1)), some (.int (x4 + 1))]) rfl ?_
      exact hrec1 _ _ _ h

def dc_X5_loansServedBy (j0 : Nat) (a1 : Int32) (σ : Sto) : Option (Int32 × Sto) :=
  wh2 (fun (rec1 : Int32 → Int32 → Sto → Option (Int32 × Sto)) (x3 : Int32) (x4 : Int32) (σ2 : Sto) => (if (σ2.1 85 j0 0) ≤ x4 then some (x3, σ2) else (bd (dc_X5_runs j0 x4 σ2) fun r5 σ6 => (if r5 = 0 then rec1 x3 (x4 + 1) σ6 else (if inb x4 10 then (if (σ6.1 73 j0 x4.toNatClampNeg) = a1 then rec1 (x3 + 1) (x4 + 1) σ6 else rec1 x3 (x4 + 1) σ6) else none))))) FU (0 : Int32) (0 : Int32) σ
set_option maxRecDepth 20000 in
set_option maxHeartbeats 4000000 in
theorem s_X5_loansServedBy {G : Gm} {d : Nat} (j0 : Nat) (a1 : Int32) (hj0 : j0 < 7) {σ τ : Sto} {r : Int32} (h : dc_X5_loansServedBy j0 a1 σ = some (r, τ)) : Cl G (d + 2) m_X5_loansServedBy [.ref (ad G 5 j0 0), .int a1] σ (some (.int r)) τ := by
  unfold dc_X5_loansServedBy at h
  refine Cl.mk (cc := cX5_loansServedBy) (own := RX5) (nL := 4) (ret := (some .int)) rfl rfl rfl rfl (by decide +kernel) (catA rfl) (Nat.le_of_ble_eq_true rfl) (fun X C => ?_)
  show V X G 0 0 (QE X G (some (.int r)) τ) σ 0 [some (.ref (ad G 5 j0 0)), some (.int a1), none, none] []
  refine v_iconst C dX5_loansServedBy_0 ki_0 ?_
  refine v_istore_n C dX5_loansServedBy_1 rfl (Nat.le_of_ble_eq_true rfl) (lc1 := [some (.ref (ad G 5 j0 0)), some (.int a1), some (.int (0 : Int32)), none]) rfl ?_
  refine v_iconst C dX5_loansServedBy_2 ki_0 ?_
  refine v_istore_n C dX5_loansServedBy_3 rfl (Nat.le_of_ble_eq_true rfl) (lc1 := [some (.ref (ad G 5 j0 0)), some (.int a1), some (.int (0 : Int32)), some (.int (0 : Int32))]) rfl ?_
  refine v_loop2 (fun x3 x4 σ2 => V X G 0 0 (QE X G (some (.int r)) τ) σ2 4 [some (.ref (ad G 5 j0 0)), some (.int a1), some (.int x3), some (.int x4)] []) (fun rec1 hrec1 x3 x4 σ2 h => ?_) h
  refine v_iload_n C dX5_loansServedBy_4 rfl rfl ?_
  refine v_aload_n C dX5_loansServedBy_5 rfl rfl ?_
  refine gf_X5_40 C hj0 dX5_loansServedBy_6 ?_
  refine v_icmp_ge C dX5_loansServedBy_9 (tgt := 42) (by decide) h (fun h => ?_) (fun h => ?_)
  · refine v_iload_n C dX5_loansServedBy_42 rfl rfl ?_
    exact v_iret C dX5_loansServedBy_43 h
  · refine v_aload_n C dX5_loansServedBy_12 rfl rfl ?_
    refine v_iload_n C dX5_loansServedBy_13 rfl rfl ?_
    refine cVi C 5 j0 0 (av := [.int x4]) si_X5_runs lk_X5_137 (ok5 hj0) rfl rfl rfl rfl (st := []) rfl (Nat.le_of_ble_eq_true rfl) dX5_loansServedBy_14 h (fun _ _ hc => s_X5_runs (d := d) j0 x4 hj0 hc) (fun r5 σ6 h => ?_)
    refine v_if_eq C dX5_loansServedBy_17 (tgt := 36) (by decide) h (fun h => ?_) (fun h => ?_)
    · refine v_iinc C dX5_loansServedBy_36 rfl (kc_1 _) (lc1 := [some (.ref (ad G 5 j0 0)), some (.int a1), some (.int x3), some (.int (x4 + 1))]) rfl ?_
      refine v_goto C dX5_loansServedBy_39 (tgt := 4) (by decide) ?_
      refine v_mask [true, true, true, true] (lc' := [some (.ref (ad G 5 j0 0)), some (.int a1), some (.int x3), some (.int (x4 + 1))]) rfl ?_
      exact hrec1 _ _ _ h
    · refine v_aload_n C dX5_loansServedBy_20 rfl rfl ?_
      refine gf_X5_19 C hj0 dX5_loansServedBy_21 ?_
      refine v_iload_n C dX5_loansServedBy_24 rfl rfl ?_
      refine lq_12 C hj0 dX5_loansServedBy_25 h (fun h hq7 => ?_)
      refine gf_X5_101 C hj0 hq7 dX5_loansServedBy_26 ?_
      refine v_iload_n C dX5_loansServedBy_29 rfl rfl ?_
      refine v_icmp_ne C dX5_loansServedBy_30 (tgt := 36) (by decide) h (fun h => ?_) (fun h => ?_)
      · refine v_iinc C dX5_loansServedBy_36 rfl (kc_1 _) (lc1 := [some (.ref (ad G 5 j0 0)), some (.int a1), some (.int x3), some (.int (x4 + 1))]) rfl ?_
        refine v_goto C dX5_loansServedBy_39 (tgt := 4) (by decide) ?_
        refine v_mask [true, true, true, true] (lc' := [some (.ref (ad G 5 j0 0)), some (.int a1), some (.int x3), some (.int (x4 + 1))]) rfl ?_
        exact hrec1 _ _ _ h
      · refine v_iinc C dX5_loansServedBy_33 rfl (kc_1 _) (lc1 := [some (.ref (ad G 5 j0 0)), some (.int a1), some (.int (x3 + 1)), some (.int x4)]) rfl ?_
        refine v_iinc C dX5_loansServedBy_36 rfl (kc_1 _) (lc1 := [some (.ref (ad G 5 j0 0)), some (.int a1), some (.int (x3 + 1)), some (.int (x4 + 1))]) rfl ?_
        refine v_goto C dX5_loansServedBy_39 (tgt := 4) (by decide) ?_
        refine v_mask [true, true, true, true] (lc' := [some (.ref (ad G 5 j0 0)), some (.int a1), some (.int (x3 + 1)), some (.int (x4 + 1))]) rfl ?_
        exact hrec1 _ _ _ h

def dc_X5_loansInArrears (j0 : Nat) (σ : Sto) : Option (Int32 × Sto) :=
  wh2 (fun (rec1 : Int32 → Int32 → Sto → Option (Int32 × Sto)) (x3 : Int32) (x4 : Int32) (σ2 : Sto) => (if (σ2.1 85 j0 0) ≤ x4 then some (x3, σ2) else (if inb x4 10 then (if (σ2.1 72 j0 x4.toNatClampNeg) ≤ 0 then rec1 x3 (x4 + 1) σ2 else rec1 (x3 + 1) (x4 + 1) σ2) else none))) FU (0 : Int32) (0 : Int32) σ
set_option maxRecDepth 20000 in
set_option maxHeartbeats 4000000 in
theorem s_X5_loansInArrears {G : Gm} {d : Nat} (j0 : Nat) (hj0 : j0 < 7) {σ τ : Sto} {r : Int32} (h : dc_X5_loansInArrears j0 σ = some (r, τ)) : Cl G d m_X5_loansInArrears [.ref (ad G 5 j0 0)] σ (some (.int r)) τ := by
  unfold dc_X5_loansInArrears at h
  refine Cl.mk (cc := cX5_loansInArrears) (own := RX5) (nL := 3) (ret := (some .int)) rfl rfl rfl rfl (by decide +kernel) (catA rfl) (Nat.le_of_ble_eq_true rfl) (fun X C => ?_)
  show V X G 0 0 (QE X G (some (.int r)) τ) σ 0 [some (.ref (ad G 5 j0 0)), none, none] []
  refine v_iconst C dX5_loansInArrears_0 ki_0 ?_
  refine v_istore_n C dX5_loansInArrears_1 rfl (Nat.le_of_ble_eq_true rfl) (lc1 := [some (.ref (ad G 5 j0 0)), some (.int (0 : Int32)), none]) rfl ?_
  refine v_iconst C dX5_loansInArrears_2 ki_0 ?_
  refine v_istore_n C dX5_loansInArrears_3 rfl (Nat.le_of_ble_eq_true rfl) (lc1 := [some (.ref (ad G 5 j0 0)), some (.int (0 : Int32)), some (.int (0 : Int32))]) rfl ?_
  refine v_loop2 (fun x3 x4 σ2 => V X G 0 0 (QE X G (some (.int r)) τ) σ2 4 [some (.ref (ad G 5 j0 0)), some (.int x3), some (.int x4)] []) (fun rec1 hrec1 x3 x4 σ2 h => ?_) h
  refine v_iload_n C dX5_loansInArrears_4 rfl rfl ?_
  refine v_aload_n C dX5_loansInArrears_5 rfl rfl ?_
  refine gf_X5_40 C hj0 dX5_loansInArrears_6 ?_
  refine v_icmp_ge C dX5_loansInArrears_9 (tgt := 33) (by decide) h (fun h => ?_) (fun h => ?_)
  · refine v_iload_n C dX5_loansInArrears_33 rfl rfl ?_
    exact v_iret C dX5_loansInArrears_34 h
  · refine v_aload_n C dX5_loansInArrears_12 rfl rfl ?_
    refine gf_X5_19 C hj0 dX5_loansInArrears_13 ?_
    refine v_iload_n C dX5_loansInArrears_16 rfl rfl ?_
    refine lq_12 C hj0 dX5_loansInArrears_17 h (fun h hq5 => ?_)
    refine gf_X5_153 C hj0 hq5 dX5_loansInArrears_18 ?_
    refine v_if_le C dX5_loansInArrears_21 (tgt := 27) (by decide) h (fun h => ?_) (fun h => ?_)
    · refine v_iinc C dX5_loansInArrears_27 rfl (kc_1 _) (lc1 := [some (.ref (ad G 5 j0 0)), some (.int x3), some (.int (x4 + 1))]) rfl ?_
      refine v_goto C dX5_loansInArrears_30 (tgt := 4) (by decide) ?_
      refine v_mask [true, true, true] (lc' := [some (.ref (ad G 5 j0 0)), some (.int x3), some (.int (x4 + 1))]) rfl ?_
      exact hrec1 _ _ _ h
    · refine v_iinc C dX5_loansInArrears_24 rfl (kc_1 _) (lc1 := [some (.ref (ad G 5 j0 0)), some (.int (x3 + 1)), some (.int x4)]) rfl ?_
      refine v_iinc C dX5_loansInArrears_27 rfl (kc_1 _) (lc1 := [some (.ref (ad G 5 j0 0)), some (.int (x3 + 1)), some (.int (x4 + 1))]) rfl ?_
      refine v_goto C dX5_loansInArrears_30 (tgt := 4) (by decide) ?_
      refine v_mask [true, true, true] (lc' := [some (.ref (ad G 5 j0 0)), some (.int (x3 + 1)), some (.int (x4 + 1))]) rfl ?_
      exact hrec1 _ _ _ h

def dc_X5_ordersOfSwitches (j0 : Nat) (σ : Sto) : Option (Int32 × Sto) :=
  wh2 (fun (rec1 : Int32 → Int32 → Sto → Option (Int32 × Sto)) (x3 : Int32) (x4 : Int32) (σ2 : Sto) => (if (σ2.1 85 j0 0) ≤ x4 then some (x3, σ2) else (if inb x4 10 then (if (σ2.1 74 j0 x4.toNatClampNeg) = (-5 : Int32) then rec1 x3 (x4 + 1) σ2 else rec1 (x3 + 1) (x4 + 1) σ2) else none))) FU (0 : Int32) (0 : Int32) σ
set_option maxRecDepth 20000 in
set_option maxHeartbeats 4000000 in
theorem s_X5_ordersOfSwitches {G : Gm} {d : Nat} (j0 : Nat) (hj0 : j0 < 7) {σ τ : Sto} {r : Int32} (h : dc_X5_ordersOfSwitches j0 σ = some (r, τ)) : Cl G d m_X5_ordersOfSwitches [.ref (ad G 5 j0 0)] σ (some (.int r)) τ := by
  unfold dc_X5_ordersOfSwitches at h
  refine Cl.mk (cc := cX5_ordersOfSwitches) (own := RX5) (nL := 3) (ret := (some .int)) rfl rfl rfl rfl (by decide +kernel) (catA rfl) (Nat.le_of_ble_eq_true rfl) (fun X C => ?_)
  show V X G 0 0 (QE X G (some (.int r)) τ) σ 0 [some (.ref (ad G 5 j0 0)), none, none] []
  refine v_iconst C dX5_ordersOfSwitches_0 ki_0 ?_
  refine v_istore_n C dX5_ordersOfSwitches_1 rfl (Nat.le_of_ble_eq_true rfl) (lc1 := [some (.ref (ad G 5 j0 0)), some (.int (0 : Int32)), none]) rfl ?_
  refine v_iconst C dX5_ordersOfSwitches_2 ki_0 ?_
  refine v_istore_n C dX5_ordersOfSwitches_3 rfl (Nat.le_of_ble_eq_true rfl) (lc1 := [some (.ref (ad G 5 j0 0)), some (.int (0 : Int32)), some (.int (0 : Int32))]) rfl ?_
  refine v_loop2 (fun x3 x4 σ2 => V X G 0 0 (QE X G (some (.int r)) τ) σ2 4 [some (.ref (ad G 5 j0 0)), some (.int x3), some (.int x4)] []) (fun rec1 hrec1 x3 x4 σ2 h => ?_) h
  refine v_iload_n C dX5_ordersOfSwitches_4 rfl rfl ?_
  refine v_aload_n C dX5_ordersOfSwitches_5 rfl rfl ?_
  refine gf_X5_40 C hj0 dX5_ordersOfSwitches_6 ?_
  refine v_icmp_ge C dX5_ordersOfSwitches_9 (tgt := 35) (by decide) h (fun h => ?_) (fun h => ?_)
  · refine v_iload_n C dX5_ordersOfSwitches_35 rfl rfl ?_
    exact v_iret C dX5_ordersOfSwitches_36 h
  · refine v_aload_n C dX5_ordersOfSwitches_12 rfl rfl ?_
    refine gf_X5_19 C hj0 dX5_ordersOfSwitches_13 ?_
    refine v_iload_n C dX5_ordersOfSwitches_16 rfl rfl ?_
    refine lq_12 C hj0 dX5_ordersOfSwitches_17 h (fun h hq5 => ?_)
    refine gf_X5_156 C hj0 hq5 dX5_ordersOfSwitches_18 ?_
    refine v_bipush C dX5_ordersOfSwitches_21 kb_m5 ?_
    refine v_icmp_eq C dX5_ordersOfSwitches_23 (tgt := 29) (by decide) h (fun h => ?_) (fun h => ?_)
    · refine v_iinc C dX5_ordersOfSwitches_29 rfl (kc_1 _) (lc1 := [some (.ref (ad G 5 j0 0)), some (.int x3), some (.int (x4 + 1))]) rfl ?_
      refine v_goto C dX5_ordersOfSwitches_32 (tgt := 4) (by decide) ?_
      refine v_mask [true, true, true] (lc' := [some (.ref (ad G 5 j0 0)), some (.int x3), some (.int (x4 + 1))]) rfl ?_
      exact hrec1 _ _ _ h
    · refine v_iinc C dX5_ordersOfSwitches_26 rfl (kc_1 _) (lc1 := [some (.ref (ad G 5 j0 0)), some (.int (x3 + 1)), some (.int x4)]) rfl ?_
      refine v_iinc C dX5_ordersOfSwitches_29 rfl (kc_1 _) (lc1 := [some (.ref (ad G 5 j0 0)), some (.int (x3 + 1)), some (.int (x4 + 1))]) rfl ?_
      refine v_goto C dX5_ordersOfSwitches_32 (tgt := 4) (by decide) ?_
      refine v_mask [true, true, true] (lc' := [some (.ref (ad G 5 j0 0)), some (.int (x3 + 1)), some (.int (x4 + 1))]) rfl ?_
      exact hrec1 _ _ _ h

def dc_X5_allPrincipals (j0 : Nat) (σ : Sto) : Option (Int32 × Sto) :=
  wh2 (fun (rec1 : Int32 → Int32 → Sto → Option (Int32 × Sto)) (x3 : Int32) (x4 : Int32) (σ2 : Sto) => (if (σ2.1 85 j0 0) ≤ x4 then some (x3, σ2) else (if inb x4 10 then rec1 (x3 + (σ2.1 68 j0 x4.toNatClampNeg)) (x4 + 1) σ2 else none))) FU (0 : Int32) (0 : Int32) σ
set_option maxRecDepth 20000 in
set_option maxHeartbeats 4000000 in
theorem s_X5_allPrincipals {G : Gm} {d : Nat} (j0 : Nat) (hj0 : j0 < 7) {σ τ : Sto} {r : Int32} (h : dc_X5_allPrincipals j0 σ = some (r, τ)) : Cl G d m_X5_allPrincipals [.ref (ad G 5 j0 0)] σ (some (.int r)) τ := by
  unfold dc_X5_allPrincipals at h
  refine Cl.mk (cc := cX5_allPrincipals) (own := RX5) (nL := 3) (ret := (some .int)) rfl rfl rfl rfl (by decide +kernel) (catA rfl) (Nat.le_of_ble_eq_true rfl) (fun X C => ?_)
  show V X G 0 0 (QE X G (some (.int r)) τ) σ 0 [some (.ref (ad G 5 j0 0)), none, none] []
  refine v_iconst C dX5_allPrincipals_0 ki_0 ?_
  refine v_istore_n C dX5_allPrincipals_1 rfl (Nat.le_of_ble_eq_true rfl) (lc1 := [some (.ref (ad G 5 j0 0)), some (.int (0 : Int32)), none]) rfl ?_
  refine v_iconst C dX5_allPrincipals_2 ki_0 ?_
  refine v_istore_n C dX5_allPrincipals_3 rfl (Nat.le_of_ble_eq_true rfl) (lc1 := [some (.ref (ad G 5 j0 0)), some (.int (0 : Int32)), some (.int (0 : Int32))]) rfl ?_
  refine v_loop2 (fun x3 x4 σ2 => V X G 0 0 (QE X G (some (.int r)) τ) σ2 4 [some (.ref (ad G 5 j0 0)), some (.int x3), some (.int x4)] []) (fun rec1 hrec1 x3 x4 σ2 h => ?_) h
  refine v_iload_n C dX5_allPrincipals_4 rfl rfl ?_
  refine v_aload_n C dX5_allPrincipals_5 rfl rfl ?_
  refine gf_X5_40 C hj0 dX5_allPrincipals_6 ?_
  refine v_icmp_ge C dX5_allPrincipals_9 (tgt := 30) (by decide) h (fun h => ?_) (fun h => ?_)
  · refine v_iload_n C dX5_allPrincipals_30 rfl rfl ?_
    exact v_iret C dX5_allPrincipals_31 h
  · refine v_iload_n C dX5_allPrincipals_12 rfl rfl ?_
    refine v_aload_n C dX5_allPrincipals_13 rfl rfl ?_
    refine gf_X5_19 C hj0 dX5_allPrincipals_14 ?_
    refine v_iload_n C dX5_allPrincipals_17 rfl rfl ?_
    refine lq_12 C hj0 dX5_allPrincipals_18 h (fun h hq5 => ?_)
    refine gf_X5_159 C hj0 hq5 dX5_allPrincipals_19 ?_
    refine v_iadd C dX5_allPrincipals_22 ?_
    refine v_istore_n C dX5_allPrincipals_23 rfl (Nat.le_of_ble_eq_true rfl) (lc1 := [some (.ref (ad G 5 j0 0)), some (.int (x3 + (σ2.1 68 j0 x4.toNatClampNeg))), some (.int x4)]) rfl ?_
    refine v_iinc C dX5_allPrincipals_24 rfl (kc_1 _) (lc1 := [some (.ref (ad G 5 j0 0)), some (.int (x3 + (σ2.1 68 j0 x4.toNatClampNeg))), some (.int (x4 + 1))]) rfl ?_
    refine v_goto C dX5_allPrincipals_27 (tgt := 4) (by decide) ?_
    refine v_mask [true, true, true] (lc' := [some (.ref (ad G 5 j0 0)), some (.int (x3 + (σ2.1 68 j0 x4.toNatClampNeg))), some (.int (x4 + 1))]) rfl ?_
    exact hrec1 _ _ _ h

def dc_X5_allInterestDue (j0 : Nat) (σ : Sto) : Option (Int32 × Sto) :=
  wh2 (fun (rec1 : Int32 → Int32 → Sto → Option (Int32 × Sto)) (x3 : Int32) (x4 : Int32) (σ2 : Sto) => (if (σ2.1 85 j0 0) ≤ x4 then some (x3, σ2) else (if inb x4 10 then rec1 (x3 + (σ2.1 70 j0 x4.toNatClampNeg)) (x4 + 1) σ2 else none))) FU (0 : Int32) (0 : Int32) σ
set_option maxRecDepth 20000 in
set_option maxHeartbeats 4000000 in
theorem s_X5_allInterestDue {G : Gm} {d : Nat} (j0 : Nat) (hj0 : j0 < 7) {σ τ : Sto} {r : Int32} (h : dc_X5_allInterestDue j0 σ = some (r, τ)) : Cl G d m_X5_allInterestDue [.ref (ad G 5 j0 0)] σ (some (.int r)) τ := by
  unfold dc_X5_allInterestDue at h
  refine Cl.mk (cc := cX5_allInterestDue) (own := RX5) (nL := 3) (ret := (some .int)) rfl rfl rfl rfl (by decide +kernel) (catA rfl) (Nat.le_of_ble_eq_true rfl) (fun X C => ?_)
  show V X G 0 0 (QE X G (some (.int r)) τ) σ 0 [some (.ref (ad G 5 j0 0)), none, none] []
  refine v_iconst C dX5_allInterestDue_0 ki_0 ?_
  refine v_istore_n C dX5_allInterestDue_1 rfl (Nat.le_of_ble_eq_true rfl) (lc1 := [some (.ref (ad G 5 j0 0)), some (.int (0 : Int32)), none]) rfl ?_
  refine v_iconst C dX5_allInterestDue_2 ki_0 ?_
  refine v_istore_n C dX5_allInterestDue_3 rfl (Nat.le_of_ble_eq_true rfl) (lc1 := [some (.ref (ad G 5 j0 0)), some (.int (0 : Int32)), some (.int (0 : Int32))]) rfl ?_
  refine v_loop2 (fun x3 x4 σ2 => V X G 0 0 (QE X G (some (.int r)) τ) σ2 4 [some (.ref (ad G 5 j0 0)), some (.int x3), some (.int x4)] []) (fun rec1 hrec1 x3 x4 σ2 h => ?_) h
  refine v_iload_n C dX5_allInterestDue_4 rfl rfl ?_
  refine v_aload_n C dX5_allInterestDue_5 rfl rfl ?_
  refine gf_X5_40 C hj0 dX5_allInterestDue_6 ?_
  refine v_icmp_ge C dX5_allInterestDue_9 (tgt := 30) (by decide) h (fun h => ?_) (fun h => ?_)
  · refine v_iload_n C dX5_allInterestDue_30 rfl rfl ?_
    exact v_iret C dX5_allInterestDue_31 h
  · refine v_iload_n C dX5_allInterestDue_12 rfl rfl ?_
    refine v_aload_n C dX5_allInterestDue_13 rfl rfl ?_
    refine gf_X5_19 C hj0 dX5_allInterestDue_14 ?_
    refine v_iload_n C dX5_allInterestDue_17 rfl rfl ?_
    refine lq_12 C hj0 dX5_allInterestDue_18 h (fun h hq5 => ?_)
    refine gf_X5_160 C hj0 hq5 dX5_allInterestDue_19 ?_
    refine v_iadd C dX5_allInterestDue_22 ?_
    refine v_istore_n C dX5_allInterestDue_23 rfl (Nat.le_of_ble_eq_true rfl) (lc1 := [some (.ref (ad G 5 j0 0)), some (.int (x3 + (σ2.1 70 j0 x4.toNatClampNeg))), some (.int x4)]) rfl ?_
    refine v_iinc C dX5_allInterestDue_24 rfl (kc_1 _) (lc1 := [some (.ref (ad G 5 j0 0)), some (.int (x3 + (σ2.1 70 j0 x4.toNatClampNeg))), some (.int (x4 + 1))]) rfl ?_
    refine v_goto C dX5_allInterestDue_27 (tgt := 4) (by decide) ?_
    refine v_mask [true, true, true] (lc' := [some (.ref (ad G 5 j0 0)), some (.int (x3 + (σ2.1 70 j0 x4.toNatClampNeg))), some (.int (x4 + 1))]) rfl ?_
    exact hrec1 _ _ _ h

def dc_X5_allLosses (j0 : Nat) (σ : Sto) : Option (Int32 × Sto) :=
  wh2 (fun (rec1 : Int32 → Int32 → Sto → Option (Int32 × Sto)) (x3 : Int32) (x4 : Int32) (σ2 : Sto) => (if (σ2.1 86 j0 0) ≤ x4 then some (x3, σ2) else (if inb x4 60 then rec1 (x3 + (σ2.1 102 j0 x4.toNatClampNeg)) (x4 + 1) σ2 else none))) FU (0 : Int32) (0 : Int32) σ
set_option maxRecDepth 20000 in
set_option maxHeartbeats 4000000 in
theorem s_X5_allLosses {G : Gm} {d : Nat} (j0 : Nat) (hj0 : j0 < 7) {σ τ : Sto} {r : Int32} (h : dc_X5_allLosses j0 σ = some (r, τ)) : Cl G d m_X5_allLosses [.ref (ad G 5 j0 0)] σ (some (.int r)) τ := by
  unfold dc_X5_allLosses at h
  refine Cl.mk (cc := cX5_allLosses) (own := RX5) (nL := 3) (ret := (some .int)) rfl rfl rfl rfl (by decide +kernel) (catA rfl) (Nat.le_of_ble_eq_true rfl) (fun X C => ?_)
  show V X G 0 0 (QE X G (some (.int r)) τ) σ 0 [some (.ref (ad G 5 j0 0)), none, none] []
  refine v_iconst C dX5_allLosses_0 ki_0 ?_
  refine v_istore_n C dX5_allLosses_1 rfl (Nat.le_of_ble_eq_true rfl) (lc1 := [some (.ref (ad G 5 j0 0)), some (.int (0 : Int32)), none]) rfl ?_
  refine v_iconst C dX5_allLosses_2 ki_0 ?_
  refine v_istore_n C dX5_allLosses_3 rfl (Nat.le_of_ble_eq_true rfl) (lc1 := [some (.ref (ad G 5 j0 0)), some (.int (0 : Int32)), some (.int (0 : Int32))]) rfl ?_
  refine v_loop2 (fun x3 x4 σ2 => V X G 0 0 (QE X G (some (.int r)) τ) σ2 4 [some (.ref (ad G 5 j0 0)), some (.int x3), some (.int x4)] []) (fun rec1 hrec1 x3 x4 σ2 h => ?_) h
  refine v_iload_n C dX5_allLosses_4 rfl rfl ?_
  refine v_aload_n C dX5_allLosses_5 rfl rfl ?_
  refine gf_X5_43 C hj0 dX5_allLosses_6 ?_
  refine v_icmp_ge C dX5_allLosses_9 (tgt := 30) (by decide) h (fun h => ?_) (fun h => ?_)
  · refine v_iload_n C dX5_allLosses_30 rfl rfl ?_
    exact v_iret C dX5_allLosses_31 h
  · refine v_iload_n C dX5_allLosses_12 rfl rfl ?_
    refine v_aload_n C dX5_allLosses_13 rfl rfl ?_
    refine gf_X5_25 C hj0 dX5_allLosses_14 ?_
    refine v_iload_n C dX5_allLosses_17 rfl rfl ?_
    refine lq_13 C hj0 dX5_allLosses_18 h (fun h hq5 => ?_)
    refine gf_X5_128 C hj0 hq5 dX5_allLosses_19 ?_
    refine v_iadd C dX5_allLosses_22 ?_
    refine v_istore_n C dX5_allLosses_23 rfl (Nat.le_of_ble_eq_true rfl) (lc1 := [some (.ref (ad G 5 j0 0)), some (.int (x3 + (σ2.1 102 j0 x4.toNatClampNeg))), some (.int x4)]) rfl ?_
    refine v_iinc C dX5_allLosses_24 rfl (kc_1 _) (lc1 := [some (.ref (ad G 5 j0 0)), some (.int (x3 + (σ2.1 102 j0 x4.toNatClampNeg))), some (.int (x4 + 1))]) rfl ?_
    refine v_goto C dX5_allLosses_27 (tgt := 4) (by decide) ?_
    refine v_mask [true, true, true] (lc' := [some (.ref (ad G 5 j0 0)), some (.int (x3 + (σ2.1 102 j0 x4.toNatClampNeg))), some (.int (x4 + 1))]) rfl ?_
    exact hrec1 _ _ _ h

def dc_X9_feeOf (a0 : Int32) (σ : Sto) : Option (Int32 × Sto) :=
  (bd (dc_X9_isServicer a0 σ) fun r1 σ2 => (if r1 = 0 then some ((0 : Int32), σ2) else (if inb a0 4 then some (feeI a0.toNatClampNeg, σ2) else none)))
set_option maxRecDepth 20000 in
set_option maxHeartbeats 4000000 in
theorem s_X9_feeOf {G : Gm} {d : Nat} (a0 : Int32) {σ τ : Sto} {r : Int32} (h : dc_X9_feeOf a0 σ = some (r, τ)) : Cl G (d + 1) m_X9_feeOf [.int a0] σ (some (.int r)) τ := by
  unfold dc_X9_feeOf at h
  refine Cl.mk (cc := cX9_feeOf) (own := RX9) (nL := 1) (ret := (some .int)) rfl rfl rfl rfl (by decide +kernel) (catA rfl) (Nat.le_of_ble_eq_true rfl) (fun X C => ?_)
  show V X G 0 0 (QE X G (some (.int r)) τ) σ 0 [some (.int a0)] []
  refine v_iload_n C dX9_feeOf_0 rfl rfl ?_
  refine cSi C (av := [.int a0]) si_X9_isServicer lk_X9_184 rfl rfl (st := []) rfl (Nat.le_of_ble_eq_true rfl) dX9_feeOf_1 h (fun _ _ hc => s_X9_isServicer (d := d) a0  hc) (fun r1 σ2 h => ?_)
  refine v_if_eq C dX9_feeOf_4 (tgt := 15) (by decide) h (fun h => ?_) (fun h => ?_)
  · refine v_iconst C dX9_feeOf_15 ki_0 ?_
    exact v_iret C dX9_feeOf_16 h
  · refine v_fees C lk_X9_313 dX9_feeOf_7 ?_
    refine v_iload_n C dX9_feeOf_10 rfl rfl ?_
    refine v_feeld C dX9_feeOf_11 h (fun h => ?_)
    refine v_goto C dX9_feeOf_12 (tgt := 16) (by decide) ?_
    exact v_iret C dX9_feeOf_16 h

def dc_X7_areOf (j1 : Nat) (a2 : Int32) (a3 : Int32) (σ : Sto) : Option (Int32 × Sto) :=
  (bd (dc_X5_runs j1 a2 σ) fun r1 σ2 => (if r1 = 0 then some ((0 : Int32), σ2) else (if inb a2 10 then (bd (dc_X9_feeOf (σ2.1 73 j1 a2.toNatClampNeg) σ2) fun r4 σ5 => (if (a3 - ((up σ5 112 0 0 ((a3 * r4) / (1000 : Int32))).1 112 0 0)) ≤ (((up σ5 112 0 0 ((a3 * r4) / (1000 : Int32))).1 70 j1 a2.toNatClampNeg) + ((up σ5 112 0 0 ((a3 * r4) / (1000 : Int32))).1 68 j1 a2.toNatClampNeg)) then (lt (up (up σ5 112 0 0 ((a3 * r4) / (1000 : Int32))) 113 0 0 (jmin (a3 - ((up σ5 112 0 0 ((a3 * r4) / (1000 : Int32))).1 112 0 0)) ((up σ5 112 0 0 ((a3 * r4) / (1000 : Int32))).1 70 j1 a2.toNatClampNeg))) fun σ6 => (lt (up (up σ6 114 0 0 (((σ6.1 113 0 0) * (σ6.1 89 j1 0)) / (100 : Int32))) 115 0 0 ((a3 - ((up σ5 112 0 0 ((a3 * r4) / (1000 : Int32))).1 112 0 0)) - ((up σ6 114 0 0 (((σ6.1 113 0 0) * (σ6.1 89 j1 0)) / (100 : Int32))).1 113 0 0))) fun σ7 => (bd (dc_X5_principals j1 a2 (0 : Int32) σ7) fun r8 σ9 => (lt (up (up σ9 116 0 0 (jmin (σ7.1 115 0 0) r8)) 117 0 0 (((up σ9 116 0 0 (jmin (σ7.1 115 0 0) r8)).1 115 0 0) - ((up σ9 116 0 0 (jmin (σ7.1 115 0 0) r8)).1 116 0 0))) fun σ10 => some ((1 : Int32), σ10))))) else some ((0 : Int32), up σ5 112 0 0 ((a3 * r4) / (1000 : Int32))))) else none)))
set_option maxRecDepth 20000 in
set_option maxHeartbeats 4000000 in
theorem s_X7_areOf {G : Gm} {d : Nat} (j1 : Nat) (a2 : Int32) (a3 : Int32) (hj1 : j1 < 7) {σ τ : Sto} {r : Int32} (h : dc_X7_areOf j1 a2 a3 σ = some (r, τ)) : Cl G (d + 2) m_X7_areOf [.ref (ad G 7 0 0), .ref (ad G 5 j1 0), .int a2, .int a3] σ (some (.int r)) τ := by
  unfold dc_X7_areOf at h
  refine Cl.mk (cc := cX7_areOf) (own := RX7) (nL := 6) (ret := (some .boolean)) rfl rfl rfl rfl (by decide +kernel) (catA rfl) (Nat.le_of_ble_eq_true rfl) (fun X C => ?_)
  show V X G 0 0 (QE X G (some (.int r)) τ) σ 0 [some (.ref (ad G 7 0 0)), some (.ref (ad G 5 j1 0)), some (.int a2), some (.int a3), none, none] []
  refine v_aload_n C dX7_areOf_0 rfl rfl ?_
  refine v_iload_n C dX7_areOf_1 rfl rfl ?_
  refine cVi C 5 j1 0 (av := [.int a2]) si_X5_runs lk_X7_9 (ok5 hj1) rfl rfl rfl rfl (st := []) rfl (Nat.le_of_ble_eq_true rfl) dX7_areOf_2 h (fun _ _ hc => s_X5_runs (d := d) j1 a2 hj1 hc) (fun r1 σ2 h => ?_)
  refine v_if_ne C dX7_areOf_5 (tgt := 10) (by decide) h (fun h => ?_) (fun h => ?_)
  · refine v_aload_n C dX7_areOf_10 rfl rfl ?_
    refine gf_X7_15 C hj1 dX7_areOf_11 ?_
    refine v_iload_n C dX7_areOf_14 rfl rfl ?_
    refine lq_12 C hj1 dX7_areOf_15 h (fun h hq3 => ?_)
    refine v_astore C dX7_areOf_16 (Nat.le_of_ble_eq_true rfl) (lc1 := [some (.ref (ad G 7 0 0)), some (.ref (ad G 5 j1 0)), some (.int a2), some (.int a3), some (.ref (ad G 4 j1 a2.toNatClampNeg)), none]) rfl ?_
    refine v_aload_n C dX7_areOf_18 rfl rfl ?_
    refine v_iload_n C dX7_areOf_19 rfl rfl ?_
    refine v_aload C dX7_areOf_20 rfl ?_
    refine gf_X7_19 C hj1 hq3 dX7_areOf_22 ?_
    refine cSNi C (av := [.int (σ2.1 73 j1 a2.toNatClampNeg)]) si_X9_feeOf lk_X7_25 rfl rfl (st := [.int a3, .ref (ad G 7 0 0)]) rfl (Nat.le_of_ble_eq_true rfl) dX7_areOf_25 h (fun _ _ hc => s_X9_feeOf (d := d) (σ2.1 73 j1 a2.toNatClampNeg)  hc) (fun r4 σ5 h => ?_)
    refine v_imul C dX7_areOf_28 ?_
    refine v_sipush C dX7_areOf_29 ks_1000 ?_
    refine v_idiv C dX7_areOf_32 (by decide) ?_
    refine pf_X7_29 C dX7_areOf_33 ?_
    refine v_iload_n C dX7_areOf_36 rfl rfl ?_
    refine v_aload_n C dX7_areOf_37 rfl rfl ?_
    refine gf_X7_29 C dX7_areOf_38 ?_
    refine v_isub C dX7_areOf_41 ?_
    refine v_istore C dX7_areOf_42 (Nat.le_of_ble_eq_true rfl) (lc1 := [some (.ref (ad G 7 0 0)), some (.ref (ad G 5 j1 0)), some (.int a2), some (.int a3), some (.ref (ad G 4 j1 a2.toNatClampNeg)), some (.int (a3 - ((up σ5 112 0 0 ((a3 * r4) / (1000 : Int32))).1 112 0 0)))]) rfl ?_
    refine v_iload C dX7_areOf_44 rfl ?_
    refine v_aload C dX7_areOf_46 rfl ?_
    refine gf_X7_34 C hj1 hq3 dX7_areOf_48 ?_
    refine v_aload C dX7_areOf_51 rfl ?_
    refine gf_X7_37 C hj1 hq3 dX7_areOf_53 ?_
    refine v_iadd C dX7_areOf_56 ?_
    refine v_icmp_le C dX7_areOf_57 (tgt := 62) (by decide) h (fun h => ?_) (fun h => ?_)
    · refine v_aload_n C dX7_areOf_62 rfl rfl ?_
      refine v_iload C dX7_areOf_63 rfl ?_
      refine v_aload C dX7_areOf_65 rfl ?_
      refine gf_X7_34 C hj1 hq3 dX7_areOf_67 ?_
      refine v_mmin C lk_X7_40 mm_min1 mm_2 mm_min3 rfl (Nat.le_of_ble_eq_true rfl) dX7_areOf_70 ?_
      refine pf_X7_46 C dX7_areOf_73 ?_
      refine v_lt h (fun σ6 h => ?_)
      refine v_aload_n C dX7_areOf_76 rfl rfl ?_
      refine v_aload_n C dX7_areOf_77 rfl rfl ?_
      refine gf_X7_46 C dX7_areOf_78 ?_
      refine v_aload_n C dX7_areOf_81 rfl rfl ?_
      refine gf_X7_49 C hj1 dX7_areOf_82 ?_
      refine v_imul C dX7_areOf_85 ?_
      refine v_bipush C dX7_areOf_86 kb_100 ?_
      refine v_idiv C dX7_areOf_88 (by decide) ?_
      refine pf_X7_52 C dX7_areOf_89 ?_
      refine v_aload_n C dX7_areOf_92 rfl rfl ?_
      refine v_iload C dX7_areOf_93 rfl ?_
      refine v_aload_n C dX7_areOf_95 rfl rfl ?_
      refine gf_X7_46 C dX7_areOf_96 ?_
      refine v_isub C dX7_areOf_99 ?_
      refine pf_X7_55 C dX7_areOf_100 ?_
      refine v_lt h (fun σ7 h => ?_)
      refine v_aload_n C dX7_areOf_103 rfl rfl ?_
      refine v_aload_n C dX7_areOf_104 rfl rfl ?_
      refine gf_X7_55 C dX7_areOf_105 ?_
      refine v_aload_n C dX7_areOf_108 rfl rfl ?_
      refine v_iload_n C dX7_areOf_109 rfl rfl ?_
      refine v_iconst C dX7_areOf_110 ki_0 ?_
      refine cVi C 5 j1 0 (av := [.int a2, .int (0 : Int32)]) si_X5_principals lk_X7_56 (ok5 hj1) rfl rfl rfl rfl (st := [.int (σ7.1 115 0 0), .ref (ad G 7 0 0)]) rfl (Nat.le_of_ble_eq_true rfl) dX7_areOf_111 h (fun _ _ hc => s_X5_principals (d := (d + 1)) j1 a2 (0 : Int32) hj1 hc) (fun r8 σ9 h => ?_)
      refine v_mmin C lk_X7_40 mm_min1 mm_2 mm_min3 rfl (Nat.le_of_ble_eq_true rfl) dX7_areOf_114 ?_
      refine pf_X7_59 C dX7_areOf_117 ?_
      refine v_aload_n C dX7_areOf_120 rfl rfl ?_
      refine v_aload_n C dX7_areOf_121 rfl rfl ?_
      refine gf_X7_55 C dX7_areOf_122 ?_
      refine v_aload_n C dX7_areOf_125 rfl rfl ?_
      refine gf_X7_59 C dX7_areOf_126 ?_
      refine v_isub C dX7_areOf_129 ?_
      refine pf_X7_62 C dX7_areOf_130 ?_
      refine v_lt h (fun σ10 h => ?_)
      refine v_iconst C dX7_areOf_133 ki_1 ?_
      exact v_zretc C dX7_areOf_134 (nar01 (Or.inr rfl)) h
    · refine v_iconst C dX7_areOf_60 ki_0 ?_
      exact v_zretc C dX7_areOf_61 (nar01 (Or.inl rfl)) h
  · refine v_iconst C dX7_areOf_8 ki_0 ?_
    exact v_zretc C dX7_areOf_9 (nar01 (Or.inl rfl)) h

def dc_X8_clear  (σ : Sto) : Option Sto :=
  wh1 (fun (rec1 : Int32 → Sto → Option Sto) (x3 : Int32) (σ2 : Sto) => (if (60 : Int32) ≤ x3 then some σ2 else (if inb x3 60 then (if inb x3 60 then (lt (up (up σ2 288 0 x3.toNatClampNeg (0 : Int32)) 288 1 x3.toNatClampNeg (0 : Int32)) fun σ4 => (if inb x3 60 then rec1 (x3 + 1) (up σ4 288 2 x3.toNatClampNeg (0 : Int32)) else none)) else none) else none))) FU (0 : Int32) σ
set_option maxRecDepth 20000 in
set_option maxHeartbeats 4000000 in
theorem s_X8_clear {G : Gm} {d : Nat}  {σ τ : Sto} (h : dc_X8_clear  σ = some τ) : Cl G d m_X8_clear [.ref (ad G 8 0 0)] σ none τ := by
  unfold dc_X8_clear at h
  refine Cl.mk (cc := cX8_clear) (own := RX8) (nL := 2) (ret := none) rfl rfl rfl rfl (by decide +kernel) (catA rfl) (Nat.le_of_ble_eq_true rfl) (fun X C => ?_)
  show V X G 0 0 (QE X G none τ) σ 0 [some (.ref (ad G 8 0 0)), none] []
  refine v_iconst C dX8_clear_0 ki_0 ?_
  refine v_istore_n C dX8_clear_1 rfl (Nat.le_of_ble_eq_true rfl) (lc1 := [some (.ref (ad G 8 0 0)), some (.int (0 : Int32))]) rfl ?_
  refine v_loop1 (fun x3 σ2 => V X G 0 0 (QE X G none τ) σ2 2 [some (.ref (ad G 8 0 0)), some (.int x3)] []) (fun rec1 hrec1 x3 σ2 h => ?_) h
  refine v_iload_n C dX8_clear_2 rfl rfl ?_
  refine v_aload_n C dX8_clear_3 rfl rfl ?_
  refine gf_X8_18 C dX8_clear_4 ?_
  refine al_18 C (by decide) dX8_clear_7 ?_
  refine v_icmp_ge C dX8_clear_8 (tgt := 38) (by decide) h (fun h => ?_) (fun h => ?_)
  · exact v_vret C dX8_clear_38 h
  · refine v_aload_n C dX8_clear_11 rfl rfl ?_
    refine gf_X8_9 C dX8_clear_12 ?_
    refine v_iload_n C dX8_clear_15 rfl rfl ?_
    refine v_iconst C dX8_clear_16 ki_0 ?_
    refine as_18 C (by decide) dX8_clear_17 h (fun h => ?_)
    refine v_aload_n C dX8_clear_18 rfl rfl ?_
    refine gf_X8_15 C dX8_clear_19 ?_
    refine v_iload_n C dX8_clear_22 rfl rfl ?_
    refine v_iconst C dX8_clear_23 ki_0 ?_
    refine as_18 C (by decide) dX8_clear_24 h (fun h => ?_)
    refine v_lt h (fun σ4 h => ?_)
    refine v_aload_n C dX8_clear_25 rfl rfl ?_
    refine gf_X8_18 C dX8_clear_26 ?_
    refine v_iload_n C dX8_clear_29 rfl rfl ?_
    refine v_iconst C dX8_clear_30 ki_0 ?_
    refine as_18 C (by decide) dX8_clear_31 h (fun h => ?_)
    refine v_iinc C dX8_clear_32 rfl (kc_1 _) (lc1 := [some (.ref (ad G 8 0 0)), some (.int (x3 + 1))]) rfl ?_
    refine v_goto C dX8_clear_35 (tgt := 2) (by decide) ?_
    refine v_mask [true, true] (lc' := [some (.ref (ad G 8 0 0)), some (.int (x3 + 1))]) rfl ?_
    exact hrec1 _ _ h

def dc_X8_weighPrincipals (j1 : Nat) (a2 : Int32) (a3 : Int32) (a4 : Int32) (σ : Sto) : Option Sto :=
  wh1 (fun (rec1 : Int32 → Sto → Option Sto) (x3 : Int32) (σ2 : Sto) => (if (σ2.1 86 j1 0) ≤ x3 then some σ2 else (if inb x3 60 then jn (fun (v5 : Int32) => (if v5 = 0 then (if inb x3 60 then rec1 (x3 + 1) (up σ2 288 2 x3.toNatClampNeg (0 : Int32)) else none) else (if inb x3 60 then rec1 (x3 + 1) (up σ2 288 2 x3.toNatClampNeg (σ2.1 99 j1 x3.toNatClampNeg)) else none))) (fun k6 => (if (σ2.1 97 j1 x3.toNatClampNeg) = a2 then (if (σ2.1 98 j1 x3.toNatClampNeg) = 0 then (if a3 = 0 then k6 (0 : Int32) else k6 (1 : Int32)) else (if a4 = 0 then k6 (0 : Int32) else k6 (1 : Int32))) else k6 (0 : Int32))) else none))) FU (0 : Int32) σ
set_option maxRecDepth 20000 in
set_option maxHeartbeats 4000000 in
theorem s_X8_weighPrincipals {G : Gm} {d : Nat} (j1 : Nat) (a2 : Int32) (a3 : Int32) (a4 : Int32) (hj1 : j1 < 7) {σ τ : Sto} (h : dc_X8_weighPrincipals j1 a2 a3 a4 σ = some τ) : Cl G d m_X8_weighPrincipals [.ref (ad G 8 0 0), .ref (ad G 5 j1 0), .int a2, .int a3, .int a4] σ none τ := by
  unfold dc_X8_weighPrincipals at h
  refine Cl.mk (cc := cX8_weighPrincipals) (own := RX8) (nL := 8) (ret := none) rfl rfl rfl rfl (by decide +kernel) (catA rfl) (Nat.le_of_ble_eq_true rfl) (fun X C => ?_)
  show V X G 0 0 (QE X G none τ) σ 0 [some (.ref (ad G 8 0 0)), some (.ref (ad G 5 j1 0)), some (.int a2), some (.int a3), some (.int a4), none, none, none] []
  refine v_iconst C dX8_weighPrincipals_0 ki_0 ?_
  refine v_istore C dX8_weighPrincipals_1 (Nat.le_of_ble_eq_true rfl) (lc1 := [some (.ref (ad G 8 0 0)), some (.ref (ad G 5 j1 0)), some (.int a2), some (.int a3), some (.int a4), some (.int (0 : Int32)), none, none]) rfl ?_
  refine v_loop1 (fun x3 σ2 => V X G 0 0 (QE X G none τ) σ2 3 [some (.ref (ad G 8 0 0)), some (.ref (ad G 5 j1 0)), some (.int a2), some (.int a3), some (.int a4), some (.int x3), none, none] []) (fun rec1 hrec1 x3 σ2 h => ?_) h
  refine v_iload C dX8_weighPrincipals_3 rfl ?_
  refine v_aload_n C dX8_weighPrincipals_5 rfl rfl ?_
  refine gf_X8_79 C hj1 dX8_weighPrincipals_6 ?_
  refine v_icmp_ge C dX8_weighPrincipals_9 (tgt := 84) (by decide) h (fun h => ?_) (fun h => ?_)
  · exact v_vret C dX8_weighPrincipals_84 h
  · refine v_aload_n C dX8_weighPrincipals_12 rfl rfl ?_
    refine gf_X8_82 C hj1 dX8_weighPrincipals_13 ?_
    refine v_iload C dX8_weighPrincipals_16 rfl ?_
    refine lq_13 C hj1 dX8_weighPrincipals_18 h (fun h hq4 => ?_)
    refine v_astore C dX8_weighPrincipals_19 (Nat.le_of_ble_eq_true rfl) (lc1 := [some (.ref (ad G 8 0 0)), some (.ref (ad G 5 j1 0)), some (.int a2), some (.int a3), some (.int a4), some (.int x3), some (.ref (ad G 6 j1 x3.toNatClampNeg)), none]) rfl ?_
    refine v_aload C dX8_weighPrincipals_21 rfl ?_
    refine gf_X8_105 C hj1 hq4 dX8_weighPrincipals_23 ?_
    refine v_iload_n C dX8_weighPrincipals_26 rfl rfl ?_
    refine v_join (fun k => ∀ (v5 : Int32), k v5 = some τ → V X G 0 0 (QE X G none τ) σ2 55 [some (.ref (ad G 8 0 0)), some (.ref (ad G 5 j1 0)), some (.int a2), some (.int a3), some (.int a4), some (.int x3), some (.ref (ad G 6 j1 x3.toNatClampNeg)), none] [.int v5]) h (fun v5 h => ?_) (fun k6 hk6 h => ?_)
    · refine v_istore C dX8_weighPrincipals_55 (Nat.le_of_ble_eq_true rfl) (lc1 := [some (.ref (ad G 8 0 0)), some (.ref (ad G 5 j1 0)), some (.int a2), some (.int a3), some (.int a4), some (.int x3), some (.ref (ad G 6 j1 x3.toNatClampNeg)), some (.int v5)]) rfl ?_
      refine v_aload_n C dX8_weighPrincipals_57 rfl rfl ?_
      refine gf_X8_18 C dX8_weighPrincipals_58 ?_
      refine v_iload C dX8_weighPrincipals_61 rfl ?_
      refine v_iload C dX8_weighPrincipals_63 rfl ?_
      refine v_if_eq C dX8_weighPrincipals_65 (tgt := 76) (by decide) h (fun h => ?_) (fun h => ?_)
      · refine v_iconst C dX8_weighPrincipals_76 ki_0 ?_
        refine as_18 C (by decide) dX8_weighPrincipals_77 h (fun h => ?_)
        refine v_iinc C dX8_weighPrincipals_78 rfl (kc_1 _) (lc1 := [some (.ref (ad G 8 0 0)), some (.ref (ad G 5 j1 0)), some (.int a2), some (.int a3), some (.int a4), some (.int (x3 + 1)), some (.ref (ad G 6 j1 x3.toNatClampNeg)), some (.int v5)]) rfl ?_
        refine v_goto C dX8_weighPrincipals_81 (tgt := 3) (by decide) ?_
        refine v_mask [true, true, true, true, true, true, false, false] (lc' := [some (.ref (ad G 8 0 0)), some (.ref (ad G 5 j1 0)), some (.int a2), some (.int a3), some (.int a4), some (.int (x3 + 1)), none, none]) rfl ?_
        exact hrec1 _ _ h
      · refine v_aload C dX8_weighPrincipals_68 rfl ?_
        refine gf_X8_94 C hj1 hq4 dX8_weighPrincipals_70 ?_
        refine v_goto C dX8_weighPrincipals_73 (tgt := 77) (by decide) ?_
        refine as_18 C (by decide) dX8_weighPrincipals_77 h (fun h => ?_)
        refine v_iinc C dX8_weighPrincipals_78 rfl (kc_1 _) (lc1 := [some (.ref (ad G 8 0 0)), some (.ref (ad G 5 j1 0)), some (.int a2), some (.int a3), some (.int a4), some (.int (x3 + 1)), some (.ref (ad G 6 j1 x3.toNatClampNeg)), some (.int v5)]) rfl ?_
        refine v_goto C dX8_weighPrincipals_81 (tgt := 3) (by decide) ?_
        refine v_mask [true, true, true, true, true, true, false, false] (lc' := [some (.ref (ad G 8 0 0)), some (.ref (ad G 5 j1 0)), some (.int a2), some (.int a3), some (.int a4), some (.int (x3 + 1)), none, none]) rfl ?_
        exact hrec1 _ _ h
    · refine v_icmp_ne C dX8_weighPrincipals_27 (tgt := 54) (by decide) h (fun h => ?_) (fun h => ?_)
      · refine v_iconst C dX8_weighPrincipals_54 ki_0 ?_
        refine v_mask [true, true, true, true, true, true, true, false] (lc' := [some (.ref (ad G 8 0 0)), some (.ref (ad G 5 j1 0)), some (.int a2), some (.int a3), some (.int a4), some (.int x3), some (.ref (ad G 6 j1 x3.toNatClampNeg)), none]) rfl ?_
        exact hk6 _ h
      · refine v_aload C dX8_weighPrincipals_30 rfl ?_
        refine gf_X8_108 C hj1 hq4 dX8_weighPrincipals_32 ?_
        refine v_if_ne C dX8_weighPrincipals_35 (tgt := 45) (by decide) h (fun h => ?_) (fun h => ?_)
        · refine v_iload C dX8_weighPrincipals_45 rfl ?_
          refine v_if_eq C dX8_weighPrincipals_47 (tgt := 54) (by decide) h (fun h => ?_) (fun h => ?_)
          · refine v_iconst C dX8_weighPrincipals_54 ki_0 ?_
            refine v_mask [true, true, true, true, true, true, true, false] (lc' := [some (.ref (ad G 8 0 0)), some (.ref (ad G 5 j1 0)), some (.int a2), some (.int a3), some (.int a4), some (.int x3), some (.ref (ad G 6 j1 x3.toNatClampNeg)), none]) rfl ?_
            exact hk6 _ h
          · refine v_iconst C dX8_weighPrincipals_50 ki_1 ?_
            refine v_goto C dX8_weighPrincipals_51 (tgt := 55) (by decide) ?_
            refine v_mask [true, true, true, true, true, true, true, false] (lc' := [some (.ref (ad G 8 0 0)), some (.ref (ad G 5 j1 0)), some (.int a2), some (.int a3), some (.int a4), some (.int x3), some (.ref (ad G 6 j1 x3.toNatClampNeg)), none]) rfl ?_
            exact hk6 _ h
        · refine v_iload_n C dX8_weighPrincipals_38 rfl rfl ?_
          refine v_if_eq C dX8_weighPrincipals_39 (tgt := 54) (by decide) h (fun h => ?_) (fun h => ?_)
          · refine v_iconst C dX8_weighPrincipals_54 ki_0 ?_
            refine v_mask [true, true, true, true, true, true, true, false] (lc' := [some (.ref (ad G 8 0 0)), some (.ref (ad G 5 j1 0)), some (.int a2), some (.int a3), some (.int a4), some (.int x3), some (.ref (ad G 6 j1 x3.toNatClampNeg)), none]) rfl ?_
            exact hk6 _ h
          · refine v_goto C dX8_weighPrincipals_42 (tgt := 50) (by decide) ?_
            refine v_iconst C dX8_weighPrincipals_50 ki_1 ?_
            refine v_goto C dX8_weighPrincipals_51 (tgt := 55) (by decide) ?_
            refine v_mask [true, true, true, true, true, true, true, false] (lc' := [some (.ref (ad G 8 0 0)), some (.ref (ad G 5 j1 0)), some (.int a2), some (.int a3), some (.int a4), some (.int x3), some (.ref (ad G 6 j1 x3.toNatClampNeg)), none]) rfl ?_
            exact hk6 _ h

def dc_X8_ofGivingUp (j1 : Nat) (a2 : Int32) (σ : Sto) : Option Sto :=
  (bv (dc_X8_clear  σ) fun σ2 => (bv (dc_X8_weighPrincipals j1 a2 (1 : Int32) (1 : Int32) σ2) fun σ4 => wh1 (fun (rec5 : Int32 → Sto → Option Sto) (x7 : Int32) (σ6 : Sto) => (if (60 : Int32) ≤ x7 then some σ6 else (if inb x7 60 then (if inb x7 60 then rec5 (x7 + 1) (up σ6 288 1 x7.toNatClampNeg (σ6.1 288 2 x7.toNatClampNeg)) else none) else none))) FU (0 : Int32) σ4))
set_option maxRecDepth 20000 in
set_option maxHeartbeats 4000000 in
theorem s_X8_ofGivingUp {G : Gm} {d : Nat} (j1 : Nat) (a2 : Int32) (hj1 : j1 < 7) {σ τ : Sto} (h : dc_X8_ofGivingUp j1 a2 σ = some τ) : Cl G (d + 1) m_X8_ofGivingUp [.ref (ad G 8 0 0), .ref (ad G 5 j1 0), .int a2] σ none τ := by
  unfold dc_X8_ofGivingUp at h
  refine Cl.mk (cc := cX8_ofGivingUp) (own := RX8) (nL := 4) (ret := none) rfl rfl rfl rfl (by decide +kernel) (catA rfl) (Nat.le_of_ble_eq_true rfl) (fun X C => ?_)
  show V X G 0 0 (QE X G none τ) σ 0 [some (.ref (ad G 8 0 0)), some (.ref (ad G 5 j1 0)), some (.int a2), none] []
  refine v_aload_n C dX8_ofGivingUp_0 rfl rfl ?_
  refine cVv C 8 0 0 (av := []) si_X8_clear lk_X8_21 (ok8) rfl rfl rfl rfl (st := []) rfl (Nat.le_of_ble_eq_true rfl) dX8_ofGivingUp_1 h (fun _ hc => s_X8_clear (d := d)   hc) (fun σ2 h => ?_)
  refine v_aload_n C dX8_ofGivingUp_4 rfl rfl ?_
  refine v_aload_n C dX8_ofGivingUp_5 rfl rfl ?_
  refine v_iload_n C dX8_ofGivingUp_6 rfl rfl ?_
  refine v_iconst C dX8_ofGivingUp_7 ki_1 ?_
  refine v_iconst C dX8_ofGivingUp_8 ki_1 ?_
  refine cVv C 8 0 0 (av := [.ref (ad G 5 j1 0), .int a2, .int (1 : Int32), .int (1 : Int32)]) si_X8_weighPrincipals lk_X8_24 (ok8) rfl rfl rfl rfl (st := []) rfl (Nat.le_of_ble_eq_true rfl) dX8_ofGivingUp_9 h (fun _ hc => s_X8_weighPrincipals (d := d) j1 a2 (1 : Int32) (1 : Int32) hj1 hc) (fun σ4 h => ?_)
  refine v_iconst C dX8_ofGivingUp_12 ki_0 ?_
  refine v_istore_n C dX8_ofGivingUp_13 rfl (Nat.le_of_ble_eq_true rfl) (lc1 := [some (.ref (ad G 8 0 0)), some (.ref (ad G 5 j1 0)), some (.int a2), some (.int (0 : Int32))]) rfl ?_
  refine v_loop1 (fun x7 σ6 => V X G 0 0 (QE X G none τ) σ6 14 [some (.ref (ad G 8 0 0)), some (.ref (ad G 5 j1 0)), some (.int a2), some (.int x7)] []) (fun rec5 hrec5 x7 σ6 h => ?_) h
  refine v_iload_n C dX8_ofGivingUp_14 rfl rfl ?_
  refine v_aload_n C dX8_ofGivingUp_15 rfl rfl ?_
  refine gf_X8_15 C dX8_ofGivingUp_16 ?_
  refine al_18 C (by decide) dX8_ofGivingUp_19 ?_
  refine v_icmp_ge C dX8_ofGivingUp_20 (tgt := 41) (by decide) h (fun h => ?_) (fun h => ?_)
  · exact v_vret C dX8_ofGivingUp_41 h
  · refine v_aload_n C dX8_ofGivingUp_23 rfl rfl ?_
    refine gf_X8_15 C dX8_ofGivingUp_24 ?_
    refine v_iload_n C dX8_ofGivingUp_27 rfl rfl ?_
    refine v_aload_n C dX8_ofGivingUp_28 rfl rfl ?_
    refine gf_X8_18 C dX8_ofGivingUp_29 ?_
    refine v_iload_n C dX8_ofGivingUp_32 rfl rfl ?_
    refine ld_18 C (by decide) dX8_ofGivingUp_33 h (fun h => ?_)
    refine as_18 C (by decide) dX8_ofGivingUp_34 h (fun h => ?_)
    refine v_iinc C dX8_ofGivingUp_35 rfl (kc_1 _) (lc1 := [some (.ref (ad G 8 0 0)), some (.ref (ad G 5 j1 0)), some (.int a2), some (.int (x7 + 1))]) rfl ?_
    refine v_goto C dX8_ofGivingUp_38 (tgt := 14) (by decide) ?_
    refine v_mask [true, true, true, true] (lc' := [some (.ref (ad G 8 0 0)), some (.ref (ad G 5 j1 0)), some (.int a2), some (.int (x7 + 1))]) rfl ?_
    exact hrec5 _ _ h

def dc_X8_shareOut (a1 : Int32) (j2 : Nat) (σ : Sto) : Option Sto :=
  wh2 (fun (rec1 : Int64 → Int32 → Sto → Option Sto) (x3 : Int64) (x4 : Int32) (σ2 : Sto) => (if (60 : Int32) ≤ x4 then (if 0 < (lg_cmp x3 (0 : Int64)) then wh2 (fun (rec5 : Int32 → Int32 → Sto → Option Sto) (x7 : Int32) (x8 : Int32) (σ6 : Sto) => (if (60 : Int32) ≤ x8 then wh2 (fun (rec9 : Int32 → Int32 → Sto → Option Sto) (x11 : Int32) (x12 : Int32) (σ10 : Sto) => (if (60 : Int32) ≤ x12 then some σ10 else (if x11 ≤ 0 then some σ10 else (if inb x12 60 then (if (σ10.1 288 2 x12.toNatClampNeg) = 0 then rec9 x11 (x12 + 1) σ10 else (if inb x12 60 then (if inb x12 60 then rec9 (x11 + (-1)) (x12 + 1) (up σ10 288 j2 x12.toNatClampNeg ((σ10.1 288 j2 x12.toNatClampNeg) + (1 : Int32))) else none) else none)) else none)))) FU x7 (0 : Int32) σ6 else (if inb x8 60 then (if ¬ x3 = 0 then (if inb x8 60 then (if inb x8 60 then rec5 (x7 - (((a1.toInt64 * ((σ6.1 288 2 x8.toNatClampNeg).toInt64)) / x3).toInt32)) (x8 + 1) (up σ6 288 j2 x8.toNatClampNeg ((σ6.1 288 j2 x8.toNatClampNeg) + (((a1.toInt64 * ((σ6.1 288 2 x8.toNatClampNeg).toInt64)) / x3).toInt32))) else none) else none) else none) else none))) FU a1 (0 : Int32) σ2 else some σ2) else (if inb x4 60 then rec1 (x3 + ((σ2.1 288 2 x4.toNatClampNeg).toInt64)) (x4 + 1) σ2 else none))) FU (0 : Int64) (0 : Int32) σ
set_option maxRecDepth 20000 in
set_option maxHeartbeats 4000000 in
theorem s_X8_shareOut {G : Gm} {d : Nat} (a1 : Int32) (j2 : Nat) (hj2 : j2 < 3) {σ τ : Sto} (h : dc_X8_shareOut a1 j2 σ = some τ) : Cl G d m_X8_shareOut [.ref (ad G 8 0 0), .int a1, .ref (ad G 18 j2 0)] σ none τ := by
  unfold dc_X8_shareOut at h
  refine Cl.mk (cc := cX8_shareOut) (own := RX8) (nL := 8) (ret := none) rfl rfl rfl rfl (by decide +kernel) (catA rfl) (Nat.le_of_ble_eq_true rfl) (fun X C => ?_)
  show V X G 0 0 (QE X G none τ) σ 0 [some (.ref (ad G 8 0 0)), some (.int a1), some (.ref (ad G 18 j2 0)), none, none, none, none, none] []
  refine v_lconst C dX8_shareOut_0 kl_0 ?_
  refine v_lstore_n C dX8_shareOut_1 rfl (Nat.le_of_ble_eq_true rfl) (lc1 := [some (.ref (ad G 8 0 0)), some (.int a1), some (.ref (ad G 18 j2 0)), some (.long (0 : Int64)), none, none, none, none]) rfl ?_
  refine v_iconst C dX8_shareOut_2 ki_0 ?_
  refine v_istore C dX8_shareOut_3 (Nat.le_of_ble_eq_true rfl) (lc1 := [some (.ref (ad G 8 0 0)), some (.int a1), some (.ref (ad G 18 j2 0)), some (.long (0 : Int64)), none, some (.int (0 : Int32)), none, none]) rfl ?_
  refine v_loop2 (fun x3 x4 σ2 => V X G 0 0 (QE X G none τ) σ2 5 [some (.ref (ad G 8 0 0)), some (.int a1), some (.ref (ad G 18 j2 0)), some (.long x3), none, some (.int x4), none, none] []) (fun rec1 hrec1 x3 x4 σ2 h => ?_) h
  refine v_iload C dX8_shareOut_5 rfl ?_
  refine v_aload_n C dX8_shareOut_7 rfl rfl ?_
  refine gf_X8_18 C dX8_shareOut_8 ?_
  refine al_18 C (by decide) dX8_shareOut_11 ?_
  refine v_icmp_ge C dX8_shareOut_12 (tgt := 32) (by decide) h (fun h => ?_) (fun h => ?_)
  · refine v_lload_n C dX8_shareOut_32 rfl rfl ?_
    refine v_lconst C dX8_shareOut_33 kl_0 ?_
    refine v_lcmp C dX8_shareOut_34 ?_
    refine v_if_gt C dX8_shareOut_35 (tgt := 39) (by decide) h (fun h => ?_) (fun h => ?_)
    · refine v_iload_n C dX8_shareOut_39 rfl rfl ?_
      refine v_istore C dX8_shareOut_40 (Nat.le_of_ble_eq_true rfl) (lc1 := [some (.ref (ad G 8 0 0)), some (.int a1), some (.ref (ad G 18 j2 0)), some (.long x3), none, some (.int a1), none, none]) rfl ?_
      refine v_iconst C dX8_shareOut_42 ki_0 ?_
      refine v_istore C dX8_shareOut_43 (Nat.le_of_ble_eq_true rfl) (lc1 := [some (.ref (ad G 8 0 0)), some (.int a1), some (.ref (ad G 18 j2 0)), some (.long x3), none, some (.int a1), some (.int (0 : Int32)), none]) rfl ?_
      refine v_loop2 (fun x7 x8 σ6 => V X G 0 0 (QE X G none τ) σ6 45 [some (.ref (ad G 8 0 0)), some (.int a1), some (.ref (ad G 18 j2 0)), some (.long x3), none, some (.int x7), some (.int x8), none] []) (fun rec5 hrec5 x7 x8 σ6 h => ?_) h
      refine v_iload C dX8_shareOut_45 rfl ?_
      refine v_aload_n C dX8_shareOut_47 rfl rfl ?_
      refine gf_X8_18 C dX8_shareOut_48 ?_
      refine al_18 C (by decide) dX8_shareOut_51 ?_
      refine v_icmp_ge C dX8_shareOut_52 (tgt := 93) (by decide) h (fun h => ?_) (fun h => ?_)
      · refine v_iconst C dX8_shareOut_93 ki_0 ?_
        refine v_istore C dX8_shareOut_94 (Nat.le_of_ble_eq_true rfl) (lc1 := [some (.ref (ad G 8 0 0)), some (.int a1), some (.ref (ad G 18 j2 0)), some (.long x3), none, some (.int x7), some (.int (0 : Int32)), none]) rfl ?_
        refine v_loop2 (fun x11 x12 σ10 => V X G 0 0 (QE X G none τ) σ10 96 [some (.ref (ad G 8 0 0)), some (.int a1), some (.ref (ad G 18 j2 0)), some (.long x3), none, some (.int x11), some (.int x12), none] []) (fun rec9 hrec9 x11 x12 σ10 h => ?_) h
        refine v_iload C dX8_shareOut_96 rfl ?_
        refine v_aload_n C dX8_shareOut_98 rfl rfl ?_
        refine gf_X8_18 C dX8_shareOut_99 ?_
        refine al_18 C (by decide) dX8_shareOut_102 ?_
        refine v_icmp_ge C dX8_shareOut_103 (tgt := 138) (by decide) h (fun h => ?_) (fun h => ?_)
        · exact v_vret C dX8_shareOut_138 h
        · refine v_iload C dX8_shareOut_106 rfl ?_
          refine v_if_le C dX8_shareOut_108 (tgt := 138) (by decide) h (fun h => ?_) (fun h => ?_)
          · exact v_vret C dX8_shareOut_138 h
          · refine v_aload_n C dX8_shareOut_111 rfl rfl ?_
            refine gf_X8_18 C dX8_shareOut_112 ?_
            refine v_iload C dX8_shareOut_115 rfl ?_
            refine ld_18 C (by decide) dX8_shareOut_117 h (fun h => ?_)
            refine v_if_eq C dX8_shareOut_118 (tgt := 132) (by decide) h (fun h => ?_) (fun h => ?_)
            · refine v_iinc C dX8_shareOut_132 rfl (kc_1 _) (lc1 := [some (.ref (ad G 8 0 0)), some (.int a1), some (.ref (ad G 18 j2 0)), some (.long x3), none, some (.int x11), some (.int (x12 + 1)), none]) rfl ?_
              refine v_goto C dX8_shareOut_135 (tgt := 96) (by decide) ?_
              refine v_mask [true, true, true, true, false, true, true, false] (lc' := [some (.ref (ad G 8 0 0)), some (.int a1), some (.ref (ad G 18 j2 0)), some (.long x3), none, some (.int x11), some (.int (x12 + 1)), none]) rfl ?_
              exact hrec9 _ _ _ h
            · refine v_aload_n C dX8_shareOut_121 rfl rfl ?_
              refine v_iload C dX8_shareOut_122 rfl ?_
              refine v_dup2 C dX8_shareOut_124 rfl rfl ?_
              refine ld_18 C hj2 dX8_shareOut_125 h (fun h => ?_)
              refine v_iconst C dX8_shareOut_126 ki_1 ?_
              refine v_iadd C dX8_shareOut_127 ?_
              refine as_18 C hj2 dX8_shareOut_128 h (fun h => ?_)
              refine v_iinc C dX8_shareOut_129 rfl (kc_m1 _) (lc1 := [some (.ref (ad G 8 0 0)), some (.int a1), some (.ref (ad G 18 j2 0)), some (.long x3), none, some (.int (x11 + (-1))), some (.int x12), none]) rfl ?_
              refine v_iinc C dX8_shareOut_132 rfl (kc_1 _) (lc1 := [some (.ref (ad G 8 0 0)), some (.int a1), some (.ref (ad G 18 j2 0)), some (.long x3), none, some (.int (x11 + (-1))), some (.int (x12 + 1)), none]) rfl ?_
              refine v_goto C dX8_shareOut_135 (tgt := 96) (by decide) ?_
              refine v_mask [true, true, true, true, false, true, true, false] (lc' := [some (.ref (ad G 8 0 0)), some (.int a1), some (.ref (ad G 18 j2 0)), some (.long x3), none, some (.int (x11 + (-1))), some (.int (x12 + 1)), none]) rfl ?_
              exact hrec9 _ _ _ h
      · refine v_iload_n C dX8_shareOut_55 rfl rfl ?_
        refine v_i2l C dX8_shareOut_56 ?_
        refine v_aload_n C dX8_shareOut_57 rfl rfl ?_
        refine gf_X8_18 C dX8_shareOut_58 ?_
        refine v_iload C dX8_shareOut_61 rfl ?_
        refine ld_18 C (by decide) dX8_shareOut_63 h (fun h => ?_)
        refine v_i2l C dX8_shareOut_64 ?_
        refine v_lmul C dX8_shareOut_65 ?_
        refine v_lload_n C dX8_shareOut_66 rfl rfl ?_
        refine v_ldiv C dX8_shareOut_67 (if_some h).1 ?_
        have h := (if_some h).2
        refine v_l2i C dX8_shareOut_68 ?_
        refine v_istore C dX8_shareOut_69 (Nat.le_of_ble_eq_true rfl) (lc1 := [some (.ref (ad G 8 0 0)), some (.int a1), some (.ref (ad G 18 j2 0)), some (.long x3), none, some (.int x7), some (.int x8), some (.int (((a1.toInt64 * ((σ6.1 288 2 x8.toNatClampNeg).toInt64)) / x3).toInt32))]) rfl ?_
        refine v_aload_n C dX8_shareOut_71 rfl rfl ?_
        refine v_iload C dX8_shareOut_72 rfl ?_
        refine v_dup2 C dX8_shareOut_74 rfl rfl ?_
        refine ld_18 C hj2 dX8_shareOut_75 h (fun h => ?_)
        refine v_iload C dX8_shareOut_76 rfl ?_
        refine v_iadd C dX8_shareOut_78 ?_
        refine as_18 C hj2 dX8_shareOut_79 h (fun h => ?_)
        refine v_iload C dX8_shareOut_80 rfl ?_
        refine v_iload C dX8_shareOut_82 rfl ?_
        refine v_isub C dX8_shareOut_84 ?_
        refine v_istore C dX8_shareOut_85 (Nat.le_of_ble_eq_true rfl) (lc1 := [some (.ref (ad G 8 0 0)), some (.int a1), some (.ref (ad G 18 j2 0)), some (.long x3), none, some (.int (x7 - (((a1.toInt64 * ((σ6.1 288 2 x8.toNatClampNeg).toInt64)) / x3).toInt32))), some (.int x8), some (.int (((a1.toInt64 * ((σ6.1 288 2 x8.toNatClampNeg).toInt64)) / x3).toInt32))]) rfl ?_
        refine v_iinc C dX8_shareOut_87 rfl (kc_1 _) (lc1 := [some (.ref (ad G 8 0 0)), some (.int a1), some (.ref (ad G 18 j2 0)), some (.long x3), none, some (.int (x7 - (((a1.toInt64 * ((σ6.1 288 2 x8.toNatClampNeg).toInt64)) / x3).toInt32))), some (.int (x8 + 1)), some (.int (((a1.toInt64 * ((σ6.1 288 2 x8.toNatClampNeg).toInt64)) / x3).toInt32))]) rfl ?_
        refine v_goto C dX8_shareOut_90 (tgt := 45) (by decide) ?_
        refine v_mask [true, true, true, true, false, true, true, false] (lc' := [some (.ref (ad G 8 0 0)), some (.int a1), some (.ref (ad G 18 j2 0)), some (.long x3), none, some (.int (x7 - (((a1.toInt64 * ((σ6.1 288 2 x8.toNatClampNeg).toInt64)) / x3).toInt32))), some (.int (x8 + 1)), none]) rfl ?_
        exact hrec5 _ _ _ h
    · exact v_vret C dX8_shareOut_38 h
  · refine v_lload_n C dX8_shareOut_15 rfl rfl ?_
    refine v_aload_n C dX8_shareOut_16 rfl rfl ?_
    refine gf_X8_18 C dX8_shareOut_17 ?_
    refine v_iload C dX8_shareOut_20 rfl ?_
    refine ld_18 C (by decide) dX8_shareOut_22 h (fun h => ?_)
    refine v_i2l C dX8_shareOut_23 ?_
    refine v_ladd C dX8_shareOut_24 ?_
    refine v_lstore_n C dX8_shareOut_25 rfl (Nat.le_of_ble_eq_true rfl) (lc1 := [some (.ref (ad G 8 0 0)), some (.int a1), some (.ref (ad G 18 j2 0)), some (.long (x3 + ((σ2.1 288 2 x4.toNatClampNeg).toInt64))), none, some (.int x4), none, none]) rfl ?_
    refine v_iinc C dX8_shareOut_26 rfl (kc_1 _) (lc1 := [some (.ref (ad G 8 0 0)), some (.int a1), some (.ref (ad G 18 j2 0)), some (.long (x3 + ((σ2.1 288 2 x4.toNatClampNeg).toInt64))), none, some (.int (x4 + 1)), none, none]) rfl ?_
    refine v_goto C dX8_shareOut_29 (tgt := 5) (by decide) ?_
    refine v_mask [true, true, true, true, false, true, false, false] (lc' := [some (.ref (ad G 8 0 0)), some (.int a1), some (.ref (ad G 18 j2 0)), some (.long (x3 + ((σ2.1 288 2 x4.toNatClampNeg).toInt64))), none, some (.int (x4 + 1)), none, none]) rfl ?_
    exact hrec1 _ _ _ h

def dc_X8_shareByClass (j1 : Nat) (a2 : Int32) (a3 : Int32) (a4 : Int32) (σ : Sto) : Option Sto :=
  (bv (dc_X8_weighPrincipals j1 a2 (1 : Int32) (0 : Int32) σ) fun σ2 => (bv (dc_X8_shareOut a3 1 σ2) fun σ4 => (bv (dc_X8_weighPrincipals j1 a2 (0 : Int32) (1 : Int32) σ4) fun σ6 => (bv (dc_X8_shareOut a4 1 σ6) fun σ8 => some σ8))))
set_option maxRecDepth 20000 in
set_option maxHeartbeats 4000000 in
theorem s_X8_shareByClass {G : Gm} {d : Nat} (j1 : Nat) (a2 : Int32) (a3 : Int32) (a4 : Int32) (hj1 : j1 < 7) {σ τ : Sto} (h : dc_X8_shareByClass j1 a2 a3 a4 σ = some τ) : Cl G (d + 1) m_X8_shareByClass [.ref (ad G 8 0 0), .ref (ad G 5 j1 0), .int a2, .int a3, .int a4] σ none τ := by
  unfold dc_X8_shareByClass at h
  refine Cl.mk (cc := cX8_shareByClass) (own := RX8) (nL := 5) (ret := none) rfl rfl rfl rfl (by decide +kernel) (catA rfl) (Nat.le_of_ble_eq_true rfl) (fun X C => ?_)
  show V X G 0 0 (QE X G none τ) σ 0 [some (.ref (ad G 8 0 0)), some (.ref (ad G 5 j1 0)), some (.int a2), some (.int a3), some (.int a4)] []
  refine v_aload_n C dX8_shareByClass_0 rfl rfl ?_
  refine v_aload_n C dX8_shareByClass_1 rfl rfl ?_
  refine v_iload_n C dX8_shareByClass_2 rfl rfl ?_
  refine v_iconst C dX8_shareByClass_3 ki_1 ?_
  refine v_iconst C dX8_shareByClass_4 ki_0 ?_
  refine cVv C 8 0 0 (av := [.ref (ad G 5 j1 0), .int a2, .int (1 : Int32), .int (0 : Int32)]) si_X8_weighPrincipals lk_X8_24 (ok8) rfl rfl rfl rfl (st := []) rfl (Nat.le_of_ble_eq_true rfl) dX8_shareByClass_5 h (fun _ hc => s_X8_weighPrincipals (d := d) j1 a2 (1 : Int32) (0 : Int32) hj1 hc) (fun σ2 h => ?_)
  refine v_aload_n C dX8_shareByClass_8 rfl rfl ?_
  refine v_iload_n C dX8_shareByClass_9 rfl rfl ?_
  refine v_aload_n C dX8_shareByClass_10 rfl rfl ?_
  refine gf_X8_15 C dX8_shareByClass_11 ?_
  refine cVv C 8 0 0 (av := [.int a3, .ref (ad G 18 1 0)]) si_X8_shareOut lk_X8_36 (ok8) rfl rfl rfl rfl (st := []) rfl (Nat.le_of_ble_eq_true rfl) dX8_shareByClass_14 h (fun _ hc => s_X8_shareOut (d := d) a3 1 (by decide) hc) (fun σ4 h => ?_)
  refine v_aload_n C dX8_shareByClass_17 rfl rfl ?_
  refine v_aload_n C dX8_shareByClass_18 rfl rfl ?_
  refine v_iload_n C dX8_shareByClass_19 rfl rfl ?_
  refine v_iconst C dX8_shareByClass_20 ki_0 ?_
  refine v_iconst C dX8_shareByClass_21 ki_1 ?_
  refine cVv C 8 0 0 (av := [.ref (ad G 5 j1 0), .int a2, .int (0 : Int32), .int (1 : Int32)]) si_X8_weighPrincipals lk_X8_24 (ok8) rfl rfl rfl rfl (st := []) rfl (Nat.le_of_ble_eq_true rfl) dX8_shareByClass_22 h (fun _ hc => s_X8_weighPrincipals (d := d) j1 a2 (0 : Int32) (1 : Int32) hj1 hc) (fun σ6 h => ?_)
  refine v_aload_n C dX8_shareByClass_25 rfl rfl ?_
  refine v_iload C dX8_shareByClass_26 rfl ?_
  refine v_aload_n C dX8_shareByClass_28 rfl rfl ?_
  refine gf_X8_15 C dX8_shareByClass_29 ?_
  refine cVv C 8 0 0 (av := [.int a4, .ref (ad G 18 1 0)]) si_X8_shareOut lk_X8_36 (ok8) rfl rfl rfl rfl (st := []) rfl (Nat.le_of_ble_eq_true rfl) dX8_shareByClass_32 h (fun _ hc => s_X8_shareOut (d := d) a4 1 (by decide) hc) (fun σ8 h => ?_)
  exact v_vret C dX8_shareByClass_35 h

def dc_X8_ofPayment (j1 : Nat) (a2 : Int32) (σ : Sto) : Option Sto :=
  (bv (dc_X8_clear  σ) fun σ2 => (bv (dc_X8_weighPrincipals j1 a2 (1 : Int32) (1 : Int32) σ2) fun σ4 => (bv (dc_X8_shareOut ((σ4.1 113 0 0) - (σ4.1 114 0 0)) 0 σ4) fun σ6 => (bv (dc_X8_shareByClass j1 a2 (σ6.1 116 0 0) (σ6.1 117 0 0) σ6) fun σ8 => some σ8))))
set_option maxRecDepth 20000 in
set_option maxHeartbeats 4000000 in
theorem s_X8_ofPayment {G : Gm} {d : Nat} (j1 : Nat) (a2 : Int32) (hj1 : j1 < 7) {σ τ : Sto} (h : dc_X8_ofPayment j1 a2 σ = some τ) : Cl G (d + 2) m_X8_ofPayment [.ref (ad G 8 0 0), .ref (ad G 5 j1 0), .int a2, .ref (ad G 7 0 0)] σ none τ := by
  unfold dc_X8_ofPayment at h
  refine Cl.mk (cc := cX8_ofPayment) (own := RX8) (nL := 4) (ret := none) rfl rfl rfl rfl (by decide +kernel) (catA rfl) (Nat.le_of_ble_eq_true rfl) (fun X C => ?_)
  show V X G 0 0 (QE X G none τ) σ 0 [some (.ref (ad G 8 0 0)), some (.ref (ad G 5 j1 0)), some (.int a2), some (.ref (ad G 7 0 0))] []
  refine v_aload_n C dX8_ofPayment_0 rfl rfl ?_
  refine cVv C 8 0 0 (av := []) si_X8_clear lk_X8_21 (ok8) rfl rfl rfl rfl (st := []) rfl (Nat.le_of_ble_eq_true rfl) dX8_ofPayment_1 h (fun _ hc => s_X8_clear (d := (d + 1))   hc) (fun σ2 h => ?_)
  refine v_aload_n C dX8_ofPayment_4 rfl rfl ?_
  refine v_aload_n C dX8_ofPayment_5 rfl rfl ?_
  refine v_iload_n C dX8_ofPayment_6 rfl rfl ?_
  refine v_iconst C dX8_ofPayment_7 ki_1 ?_
  refine v_iconst C dX8_ofPayment_8 ki_1 ?_
  refine cVv C 8 0 0 (av := [.ref (ad G 5 j1 0), .int a2, .int (1 : Int32), .int (1 : Int32)]) si_X8_weighPrincipals lk_X8_24 (ok8) rfl rfl rfl rfl (st := []) rfl (Nat.le_of_ble_eq_true rfl) dX8_ofPayment_9 h (fun _ hc => s_X8_weighPrincipals (d := (d + 1)) j1 a2 (1 : Int32) (1 : Int32) hj1 hc) (fun σ4 h => ?_)
  refine v_aload_n C dX8_ofPayment_12 rfl rfl ?_
  refine v_aload_n C dX8_ofPayment_13 rfl rfl ?_
  refine gf_X8_28 C dX8_ofPayment_14 ?_
  refine v_aload_n C dX8_ofPayment_17 rfl rfl ?_
  refine gf_X8_33 C dX8_ofPayment_18 ?_
  refine v_isub C dX8_ofPayment_21 ?_
  refine v_aload_n C dX8_ofPayment_22 rfl rfl ?_
  refine gf_X8_9 C dX8_ofPayment_23 ?_
  refine cVv C 8 0 0 (av := [.int ((σ4.1 113 0 0) - (σ4.1 114 0 0)), .ref (ad G 18 0 0)]) si_X8_shareOut lk_X8_36 (ok8) rfl rfl rfl rfl (st := []) rfl (Nat.le_of_ble_eq_true rfl) dX8_ofPayment_26 h (fun _ hc => s_X8_shareOut (d := (d + 1)) ((σ4.1 113 0 0) - (σ4.1 114 0 0)) 0 (by decide) hc) (fun σ6 h => ?_)
  refine v_aload_n C dX8_ofPayment_29 rfl rfl ?_
  refine v_aload_n C dX8_ofPayment_30 rfl rfl ?_
  refine v_iload_n C dX8_ofPayment_31 rfl rfl ?_
  refine v_aload_n C dX8_ofPayment_32 rfl rfl ?_
  refine gf_X8_40 C dX8_ofPayment_33 ?_
  refine v_aload_n C dX8_ofPayment_36 rfl rfl ?_
  refine gf_X8_43 C dX8_ofPayment_37 ?_
  refine cVv C 8 0 0 (av := [.ref (ad G 5 j1 0), .int a2, .int (σ6.1 116 0 0), .int (σ6.1 117 0 0)]) si_X8_shareByClass lk_X8_46 (ok8) rfl rfl rfl rfl (st := []) rfl (Nat.le_of_ble_eq_true rfl) dX8_ofPayment_40 h (fun _ hc => s_X8_shareByClass (d := d) j1 a2 (σ6.1 116 0 0) (σ6.1 117 0 0) hj1 hc) (fun σ8 h => ?_)
  exact v_vret C dX8_ofPayment_43 h

def dc_X8_ofSale (j1 : Nat) (a2 : Int32) (a3 : Int32) (σ : Sto) : Option (Int32 × Sto) :=
  (bv (dc_X8_clear  σ) fun σ2 => (bd (dc_X5_principals j1 a2 (0 : Int32) σ2) fun r3 σ4 => (bd (dc_X5_principals j1 a2 (1 : Int32) σ4) fun r5 σ6 => (bv (dc_X8_shareByClass j1 a2 (jmin a3 r3) (jmin (a3 - (jmin a3 r3)) r5) σ6) fun σ8 => (bv (dc_X8_weighPrincipals j1 a2 (1 : Int32) (0 : Int32) σ8) fun σ10 => wh1 (fun (rec11 : Int32 → Sto → Option (Int32 × Sto)) (x13 : Int32) (σ12 : Sto) => (if (60 : Int32) ≤ x13 then (bv (dc_X8_shareOut (jmin ((σ8.1 88 j1 0) + ((a3 - (jmin a3 r3)) - (jmin (a3 - (jmin a3 r3)) r5))) (r3 - (jmin a3 r3))) 1 σ12) fun σ15 => some (((σ8.1 88 j1 0) + ((a3 - (jmin a3 r3)) - (jmin (a3 - (jmin a3 r3)) r5))) - (jmin ((σ8.1 88 j1 0) + ((a3 - (jmin a3 r3)) - (jmin (a3 - (jmin a3 r3)) r5))) (r3 - (jmin a3 r3))), σ15)) else (if inb x13 60 then (if inb x13 60 then (if inb x13 60 then rec11 (x13 + 1) (up σ12 288 2 x13.toNatClampNeg (jmax (0 : Int32) ((σ12.1 288 2 x13.toNatClampNeg) - (σ12.1 288 1 x13.toNatClampNeg)))) else none) else none) else none))) FU (0 : Int32) σ10)))))
set_option maxRecDepth 20000 in
set_option maxHeartbeats 4000000 in
theorem s_X8_ofSale {G : Gm} {d : Nat} (j1 : Nat) (a2 : Int32) (a3 : Int32) (hj1 : j1 < 7) {σ τ : Sto} {r : Int32} (h : dc_X8_ofSale j1 a2 a3 σ = some (r, τ)) : Cl G (d + 2) m_X8_ofSale [.ref (ad G 8 0 0), .ref (ad G 5 j1 0), .int a2, .int a3] σ (some (.int r)) τ := by
  unfold dc_X8_ofSale at h
  refine Cl.mk (cc := cX8_ofSale) (own := RX8) (nL := 10) (ret := (some .int)) rfl rfl rfl rfl (by decide +kernel) (catA rfl) (Nat.le_of_ble_eq_true rfl) (fun X C => ?_)
  show V X G 0 0 (QE X G (some (.int r)) τ) σ 0 [some (.ref (ad G 8 0 0)), some (.ref (ad G 5 j1 0)), some (.int a2), some (.int a3), none, none, none, none, none, none] []
  refine v_aload_n C dX8_ofSale_0 rfl rfl ?_
  refine cVv C 8 0 0 (av := []) si_X8_clear lk_X8_21 (ok8) rfl rfl rfl rfl (st := []) rfl (Nat.le_of_ble_eq_true rfl) dX8_ofSale_1 h (fun _ hc => s_X8_clear (d := (d + 1))   hc) (fun σ2 h => ?_)
  refine v_aload_n C dX8_ofSale_4 rfl rfl ?_
  refine v_iload_n C dX8_ofSale_5 rfl rfl ?_
  refine v_iconst C dX8_ofSale_6 ki_0 ?_
  refine cVi C 5 j1 0 (av := [.int a2, .int (0 : Int32)]) si_X5_principals lk_X8_50 (ok5 hj1) rfl rfl rfl rfl (st := []) rfl (Nat.le_of_ble_eq_true rfl) dX8_ofSale_7 h (fun _ _ hc => s_X5_principals (d := (d + 1)) j1 a2 (0 : Int32) hj1 hc) (fun r3 σ4 h => ?_)
  refine v_istore C dX8_ofSale_10 (Nat.le_of_ble_eq_true rfl) (lc1 := [some (.ref (ad G 8 0 0)), some (.ref (ad G 5 j1 0)), some (.int a2), some (.int a3), some (.int r3), none, none, none, none, none]) rfl ?_
  refine v_iload_n C dX8_ofSale_12 rfl rfl ?_
  refine v_iload C dX8_ofSale_13 rfl ?_
  refine v_mmin C lk_X8_56 mm_min1 mm_2 mm_min3 rfl (Nat.le_of_ble_eq_true rfl) dX8_ofSale_15 ?_
  refine v_istore C dX8_ofSale_18 (Nat.le_of_ble_eq_true rfl) (lc1 := [some (.ref (ad G 8 0 0)), some (.ref (ad G 5 j1 0)), some (.int a2), some (.int a3), some (.int r3), some (.int (jmin a3 r3)), none, none, none, none]) rfl ?_
  refine v_iload_n C dX8_ofSale_20 rfl rfl ?_
  refine v_iload C dX8_ofSale_21 rfl ?_
  refine v_isub C dX8_ofSale_23 ?_
  refine v_aload_n C dX8_ofSale_24 rfl rfl ?_
  refine v_iload_n C dX8_ofSale_25 rfl rfl ?_
  refine v_iconst C dX8_ofSale_26 ki_1 ?_
  refine cVi C 5 j1 0 (av := [.int a2, .int (1 : Int32)]) si_X5_principals lk_X8_50 (ok5 hj1) rfl rfl rfl rfl (st := [.int (a3 - (jmin a3 r3))]) rfl (Nat.le_of_ble_eq_true rfl) dX8_ofSale_27 h (fun _ _ hc => s_X5_principals (d := (d + 1)) j1 a2 (1 : Int32) hj1 hc) (fun r5 σ6 h => ?_)
  refine v_mmin C lk_X8_56 mm_min1 mm_2 mm_min3 rfl (Nat.le_of_ble_eq_true rfl) dX8_ofSale_30 ?_
  refine v_istore C dX8_ofSale_33 (Nat.le_of_ble_eq_true rfl) (lc1 := [some (.ref (ad G 8 0 0)), some (.ref (ad G 5 j1 0)), some (.int a2), some (.int a3), some (.int r3), some (.int (jmin a3 r3)), some (.int (jmin (a3 - (jmin a3 r3)) r5)), none, none, none]) rfl ?_
  refine v_aload_n C dX8_ofSale_35 rfl rfl ?_
  refine v_aload_n C dX8_ofSale_36 rfl rfl ?_
  refine v_iload_n C dX8_ofSale_37 rfl rfl ?_
  refine v_iload C dX8_ofSale_38 rfl ?_
  refine v_iload C dX8_ofSale_40 rfl ?_
  refine cVv C 8 0 0 (av := [.ref (ad G 5 j1 0), .int a2, .int (jmin a3 r3), .int (jmin (a3 - (jmin a3 r3)) r5)]) si_X8_shareByClass lk_X8_46 (ok8) rfl rfl rfl rfl (st := []) rfl (Nat.le_of_ble_eq_true rfl) dX8_ofSale_42 h (fun _ hc => s_X8_shareByClass (d := d) j1 a2 (jmin a3 r3) (jmin (a3 - (jmin a3 r3)) r5) hj1 hc) (fun σ8 h => ?_)
  refine v_aload_n C dX8_ofSale_45 rfl rfl ?_
  refine gf_X8_61 C hj1 dX8_ofSale_46 ?_
  refine v_iload_n C dX8_ofSale_49 rfl rfl ?_
  refine v_iload C dX8_ofSale_50 rfl ?_
  refine v_isub C dX8_ofSale_52 ?_
  refine v_iload C dX8_ofSale_53 rfl ?_
  refine v_isub C dX8_ofSale_55 ?_
  refine v_iadd C dX8_ofSale_56 ?_
  refine v_istore C dX8_ofSale_57 (Nat.le_of_ble_eq_true rfl) (lc1 := [some (.ref (ad G 8 0 0)), some (.ref (ad G 5 j1 0)), some (.int a2), some (.int a3), some (.int r3), some (.int (jmin a3 r3)), some (.int (jmin (a3 - (jmin a3 r3)) r5)), some (.int ((σ8.1 88 j1 0) + ((a3 - (jmin a3 r3)) - (jmin (a3 - (jmin a3 r3)) r5)))), none, none]) rfl ?_
  refine v_iload C dX8_ofSale_59 rfl ?_
  refine v_iload C dX8_ofSale_61 rfl ?_
  refine v_iload C dX8_ofSale_63 rfl ?_
  refine v_isub C dX8_ofSale_65 ?_
  refine v_mmin C lk_X8_56 mm_min1 mm_2 mm_min3 rfl (Nat.le_of_ble_eq_true rfl) dX8_ofSale_66 ?_
  refine v_istore C dX8_ofSale_69 (Nat.le_of_ble_eq_true rfl) (lc1 := [some (.ref (ad G 8 0 0)), some (.ref (ad G 5 j1 0)), some (.int a2), some (.int a3), some (.int r3), some (.int (jmin a3 r3)), some (.int (jmin (a3 - (jmin a3 r3)) r5)), some (.int ((σ8.1 88 j1 0) + ((a3 - (jmin a3 r3)) - (jmin (a3 - (jmin a3 r3)) r5)))), some (.int (jmin ((σ8.1 88 j1 0) + ((a3 - (jmin a3 r3)) - (jmin (a3 - (jmin a3 r3)) r5))) (r3 - (jmin a3 r3)))), none]) rfl ?_
  refine v_aload_n C dX8_ofSale_71 rfl rfl ?_
  refine v_aload_n C dX8_ofSale_72 rfl rfl ?_
  refine v_iload_n C dX8_ofSale_73 rfl rfl ?_
  refine v_iconst C dX8_ofSale_74 ki_1 ?_
  refine v_iconst C dX8_ofSale_75 ki_0 ?_
  refine cVv C 8 0 0 (av := [.ref (ad G 5 j1 0), .int a2, .int (1 : Int32), .int (0 : Int32)]) si_X8_weighPrincipals lk_X8_24 (ok8) rfl rfl rfl rfl (st := []) rfl (Nat.le_of_ble_eq_true rfl) dX8_ofSale_76 h (fun _ hc => s_X8_weighPrincipals (d := (d + 1)) j1 a2 (1 : Int32) (0 : Int32) hj1 hc) (fun σ10 h => ?_)
  refine v_iconst C dX8_ofSale_79 ki_0 ?_
  refine v_istore C dX8_ofSale_80 (Nat.le_of_ble_eq_true rfl) (lc1 := [some (.ref (ad G 8 0 0)), some (.ref (ad G 5 j1 0)), some (.int a2), some (.int a3), some (.int r3), some (.int (jmin a3 r3)), some (.int (jmin (a3 - (jmin a3 r3)) r5)), some (.int ((σ8.1 88 j1 0) + ((a3 - (jmin a3 r3)) - (jmin (a3 - (jmin a3 r3)) r5)))), some (.int (jmin ((σ8.1 88 j1 0) + ((a3 - (jmin a3 r3)) - (jmin (a3 - (jmin a3 r3)) r5))) (r3 - (jmin a3 r3)))), some (.int (0 : Int32))]) rfl ?_
  refine v_loop1 (fun x13 σ12 => V X G 0 0 (QE X G (some (.int r)) τ) σ12 82 [some (.ref (ad G 8 0 0)), some (.ref (ad G 5 j1 0)), some (.int a2), some (.int a3), some (.int r3), some (.int (jmin a3 r3)), some (.int (jmin (a3 - (jmin a3 r3)) r5)), some (.int ((σ8.1 88 j1 0) + ((a3 - (jmin a3 r3)) - (jmin (a3 - (jmin a3 r3)) r5)))), some (.int (jmin ((σ8.1 88 j1 0) + ((a3 - (jmin a3 r3)) - (jmin (a3 - (jmin a3 r3)) r5))) (r3 - (jmin a3 r3)))), some (.int x13)] []) (fun rec11 hrec11 x13 σ12 h => ?_) h
  refine v_iload C dX8_ofSale_82 rfl ?_
  refine v_aload_n C dX8_ofSale_84 rfl rfl ?_
  refine gf_X8_18 C dX8_ofSale_85 ?_
  refine al_18 C (by decide) dX8_ofSale_88 ?_
  refine v_icmp_ge C dX8_ofSale_89 (tgt := 124) (by decide) h (fun h => ?_) (fun h => ?_)
  · refine v_aload_n C dX8_ofSale_124 rfl rfl ?_
    refine v_iload C dX8_ofSale_125 rfl ?_
    refine v_aload_n C dX8_ofSale_127 rfl rfl ?_
    refine gf_X8_15 C dX8_ofSale_128 ?_
    refine cVv C 8 0 0 (av := [.int (jmin ((σ8.1 88 j1 0) + ((a3 - (jmin a3 r3)) - (jmin (a3 - (jmin a3 r3)) r5))) (r3 - (jmin a3 r3))), .ref (ad G 18 1 0)]) si_X8_shareOut lk_X8_36 (ok8) rfl rfl rfl rfl (st := []) rfl (Nat.le_of_ble_eq_true rfl) dX8_ofSale_131 h (fun _ hc => s_X8_shareOut (d := (d + 1)) (jmin ((σ8.1 88 j1 0) + ((a3 - (jmin a3 r3)) - (jmin (a3 - (jmin a3 r3)) r5))) (r3 - (jmin a3 r3))) 1 (by decide) hc) (fun σ15 h => ?_)
    refine v_iload C dX8_ofSale_134 rfl ?_
    refine v_iload C dX8_ofSale_136 rfl ?_
    refine v_isub C dX8_ofSale_138 ?_
    exact v_iret C dX8_ofSale_139 h
  · refine v_aload_n C dX8_ofSale_92 rfl rfl ?_
    refine gf_X8_18 C dX8_ofSale_93 ?_
    refine v_iload C dX8_ofSale_96 rfl ?_
    refine v_iconst C dX8_ofSale_98 ki_0 ?_
    refine v_aload_n C dX8_ofSale_99 rfl rfl ?_
    refine gf_X8_18 C dX8_ofSale_100 ?_
    refine v_iload C dX8_ofSale_103 rfl ?_
    refine ld_18 C (by decide) dX8_ofSale_105 h (fun h => ?_)
    refine v_aload_n C dX8_ofSale_106 rfl rfl ?_
    refine gf_X8_15 C dX8_ofSale_107 ?_
    refine v_iload C dX8_ofSale_110 rfl ?_
    refine ld_18 C (by decide) dX8_ofSale_112 h (fun h => ?_)
    refine v_isub C dX8_ofSale_113 ?_
    refine v_mmax C lk_X8_64 mm_max1 mm_2 mm_max3 rfl (Nat.le_of_ble_eq_true rfl) dX8_ofSale_114 ?_
    refine as_18 C (by decide) dX8_ofSale_117 h (fun h => ?_)
    refine v_iinc C dX8_ofSale_118 rfl (kc_1 _) (lc1 := [some (.ref (ad G 8 0 0)), some (.ref (ad G 5 j1 0)), some (.int a2), some (.int a3), some (.int r3), some (.int (jmin a3 r3)), some (.int (jmin (a3 - (jmin a3 r3)) r5)), some (.int ((σ8.1 88 j1 0) + ((a3 - (jmin a3 r3)) - (jmin (a3 - (jmin a3 r3)) r5)))), some (.int (jmin ((σ8.1 88 j1 0) + ((a3 - (jmin a3 r3)) - (jmin (a3 - (jmin a3 r3)) r5))) (r3 - (jmin a3 r3)))), some (.int (x13 + 1))]) rfl ?_
    refine v_goto C dX8_ofSale_121 (tgt := 82) (by decide) ?_
    refine v_mask [true, true, true, true, true, true, true, true, true, true] (lc' := [some (.ref (ad G 8 0 0)), some (.ref (ad G 5 j1 0)), some (.int a2), some (.int a3), some (.int r3), some (.int (jmin a3 r3)), some (.int (jmin (a3 - (jmin a3 r3)) r5)), some (.int ((σ8.1 88 j1 0) + ((a3 - (jmin a3 r3)) - (jmin (a3 - (jmin a3 r3)) r5)))), some (.int (jmin ((σ8.1 88 j1 0) + ((a3 - (jmin a3 r3)) - (jmin (a3 - (jmin a3 r3)) r5))) (r3 - (jmin a3 r3)))), some (.int (x13 + 1))]) rfl ?_
    exact hrec11 _ _ h
