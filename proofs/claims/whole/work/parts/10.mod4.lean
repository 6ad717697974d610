/-! by program (wip/whole/walk.py): X10_investor X10_notesOf X10_loan X10_note X10_split X10_toRepay X10_runningWith X10_servicer X10_inState X10_sumOf X10_losses X10_count -/
def dc_X10_investor (a1 : Int32) (a2 : Int32) (σ : Sto) : Option (Int32 × Sto) :=
  (bd (dc_X10_isInvestor a1 (up σ 160 0 0 (0 : Int32))) fun r1 σ2 => (if r1 = 0 then some ((-1 : Int32), σ2) else (bd (dc_X10_in a2 (0 : Int32) (5 : Int32) σ2) fun r3 σ4 => (if r3 = 0 then some ((-2 : Int32), σ4) else (if a2 = 0 then (if inb ((10 : Int32) + ((3 : Int32) * a1)) 564 then some (σ4.1 304 0 ((10 : Int32) + ((3 : Int32) * a1)).toNatClampNeg, σ4) else none) else (if (4 : Int32) ≤ a2 then (if inb ((((10 : Int32) + ((3 : Int32) * a1)) + a2) - (3 : Int32)) 564 then some (σ4.1 304 0 ((((10 : Int32) + ((3 : Int32) * a1)) + a2) - (3 : Int32)).toNatClampNeg, σ4) else none) else (bd (dc_X10_held a1 a2 σ4) fun r5 σ6 => some (r5, σ6))))))))
set_option maxRecDepth 20000 in
set_option maxHeartbeats 4000000 in
theorem s_X10_investor {G : Gm} {d : Nat} (a1 : Int32) (a2 : Int32) {σ τ : Sto} {r : Int32} (h : dc_X10_investor a1 a2 σ = some (r, τ)) : Cl G (d + 2) m_X10_investor [.ref (ad G 10 0 0), .int a1, .int a2] σ (some (.int r)) τ := by
  unfold dc_X10_investor at h
  refine Cl.mk (cc := cX10_investor) (own := RX10) (nL := 3) (ret := (some .int)) rfl rfl rfl rfl (by decide +kernel) (catA rfl) (Nat.le_of_ble_eq_true rfl) (fun X C => ?_)
  show V X G 0 0 (QE X G (some (.int r)) τ) σ 0 [some (.ref (ad G 10 0 0)), some (.int a1), some (.int a2)] []
  refine v_aload_n C dX10_investor_0 rfl rfl ?_
  refine v_iconst C dX10_investor_1 ki_0 ?_
  refine pf_X10_1 C dX10_investor_2 ?_
  refine v_aload_n C dX10_investor_5 rfl rfl ?_
  refine v_iload_n C dX10_investor_6 rfl rfl ?_
  refine cVi C 10 0 0 (av := [.int a1]) si_X10_isInvestor lk_X10_65 (ok10) rfl rfl rfl rfl (st := []) rfl (Nat.le_of_ble_eq_true rfl) dX10_investor_7 h (fun _ _ hc => s_X10_isInvestor (d := d) a1  hc) (fun r1 σ2 h => ?_)
  refine v_if_ne C dX10_investor_10 (tgt := 15) (by decide) h (fun h => ?_) (fun h => ?_)
  · refine v_iload_n C dX10_investor_15 rfl rfl ?_
    refine v_iconst C dX10_investor_16 ki_0 ?_
    refine v_iconst C dX10_investor_17 ki_5 ?_
    refine cSi C (av := [.int a2, .int (0 : Int32), .int (5 : Int32)]) si_X10_in lk_X10_38 rfl rfl (st := []) rfl (Nat.le_of_ble_eq_true rfl) dX10_investor_18 h (fun _ _ hc => s_X10_in (d := (d + 1)) a2 (0 : Int32) (5 : Int32)  hc) (fun r3 σ4 h => ?_)
    refine v_if_ne C dX10_investor_21 (tgt := 27) (by decide) h (fun h => ?_) (fun h => ?_)
    · refine v_iload_n C dX10_investor_27 rfl rfl ?_
      refine v_if_ne C dX10_investor_28 (tgt := 45) (by decide) h (fun h => ?_) (fun h => ?_)
      · refine v_iload_n C dX10_investor_45 rfl rfl ?_
        refine v_iconst C dX10_investor_46 ki_4 ?_
        refine v_icmp_ge C dX10_investor_47 (tgt := 59) (by decide) h (fun h => ?_) (fun h => ?_)
        · refine v_aload_n C dX10_investor_59 rfl rfl ?_
          refine gf_X10_13 C dX10_investor_60 ?_
          refine v_bipush C dX10_investor_63 kb_10 ?_
          refine v_iconst C dX10_investor_65 ki_3 ?_
          refine v_iload_n C dX10_investor_66 rfl rfl ?_
          refine v_imul C dX10_investor_67 ?_
          refine v_iadd C dX10_investor_68 ?_
          refine v_iload_n C dX10_investor_69 rfl rfl ?_
          refine v_iadd C dX10_investor_70 ?_
          refine v_iconst C dX10_investor_71 ki_3 ?_
          refine v_isub C dX10_investor_72 ?_
          refine ld_19 C dX10_investor_73 h (fun h => ?_)
          exact v_iret C dX10_investor_74 h
        · refine v_aload_n C dX10_investor_50 rfl rfl ?_
          refine v_iload_n C dX10_investor_51 rfl rfl ?_
          refine v_iload_n C dX10_investor_52 rfl rfl ?_
          refine cVi C 10 0 0 (av := [.int a1, .int a2]) si_X10_held lk_X10_176 (ok10) rfl rfl rfl rfl (st := []) rfl (Nat.le_of_ble_eq_true rfl) dX10_investor_53 h (fun _ _ hc => s_X10_held (d := d) a1 a2  hc) (fun r5 σ6 h => ?_)
          refine v_goto C dX10_investor_56 (tgt := 74) (by decide) ?_
          exact v_iret C dX10_investor_74 h
      · refine v_aload_n C dX10_investor_31 rfl rfl ?_
        refine gf_X10_13 C dX10_investor_32 ?_
        refine v_bipush C dX10_investor_35 kb_10 ?_
        refine v_iconst C dX10_investor_37 ki_3 ?_
        refine v_iload_n C dX10_investor_38 rfl rfl ?_
        refine v_imul C dX10_investor_39 ?_
        refine v_iadd C dX10_investor_40 ?_
        refine ld_19 C dX10_investor_41 h (fun h => ?_)
        refine v_goto C dX10_investor_42 (tgt := 74) (by decide) ?_
        exact v_iret C dX10_investor_74 h
    · refine v_bipush C dX10_investor_24 kb_m2 ?_
      exact v_iret C dX10_investor_26 h
  · refine v_iconst C dX10_investor_13 ki_m1 ?_
    exact v_iret C dX10_investor_14 h

def dc_X10_notesOf (a1 : Int32) (σ : Sto) : Option (Int32 × Sto) :=
  wh2 (fun (rec1 : Int32 → Int32 → Sto → Option (Int32 × Sto)) (x3 : Int32) (x4 : Int32) (σ2 : Sto) => (if inb (3 : Int32) 564 then (if (σ2.1 304 0 (3 : Int32).toNatClampNeg) ≤ x4 then some (x3, σ2) else (bd (dc_X10_ofNote x4 (1 : Int32) σ2) fun r5 σ6 => (if r5 = a1 then rec1 (x3 + (1 : Int32)) (x4 + 1) σ6 else rec1 (x3 + (0 : Int32)) (x4 + 1) σ6))) else none)) FU (0 : Int32) (0 : Int32) σ
set_option maxRecDepth 20000 in
set_option maxHeartbeats 4000000 in
theorem s_X10_notesOf {G : Gm} {d : Nat} (a1 : Int32) {σ τ : Sto} {r : Int32} (h : dc_X10_notesOf a1 σ = some (r, τ)) : Cl G (d + 1) m_X10_notesOf [.ref (ad G 10 0 0), .int a1] σ (some (.int r)) τ := by
  unfold dc_X10_notesOf at h
  refine Cl.mk (cc := cX10_notesOf) (own := RX10) (nL := 4) (ret := (some .int)) rfl rfl rfl rfl (by decide +kernel) (catA rfl) (Nat.le_of_ble_eq_true rfl) (fun X C => ?_)
  show V X G 0 0 (QE X G (some (.int r)) τ) σ 0 [some (.ref (ad G 10 0 0)), some (.int a1), none, none] []
  refine v_iconst C dX10_notesOf_0 ki_0 ?_
  refine v_istore_n C dX10_notesOf_1 rfl (Nat.le_of_ble_eq_true rfl) (lc1 := [some (.ref (ad G 10 0 0)), some (.int a1), some (.int (0 : Int32)), none]) rfl ?_
  refine v_iconst C dX10_notesOf_2 ki_0 ?_
  refine v_istore_n C dX10_notesOf_3 rfl (Nat.le_of_ble_eq_true rfl) (lc1 := [some (.ref (ad G 10 0 0)), some (.int a1), some (.int (0 : Int32)), some (.int (0 : Int32))]) rfl ?_
  refine v_loop2 (fun x3 x4 σ2 => V X G 0 0 (QE X G (some (.int r)) τ) σ2 4 [some (.ref (ad G 10 0 0)), some (.int a1), some (.int x3), some (.int x4)] []) (fun rec1 hrec1 x3 x4 σ2 h => ?_) h
  refine v_iload_n C dX10_notesOf_4 rfl rfl ?_
  refine v_aload_n C dX10_notesOf_5 rfl rfl ?_
  refine gf_X10_13 C dX10_notesOf_6 ?_
  refine v_iconst C dX10_notesOf_9 ki_3 ?_
  refine ld_19 C dX10_notesOf_10 h (fun h => ?_)
  refine v_icmp_ge C dX10_notesOf_11 (tgt := 38) (by decide) h (fun h => ?_) (fun h => ?_)
  · refine v_iload_n C dX10_notesOf_38 rfl rfl ?_
    exact v_iret C dX10_notesOf_39 h
  · refine v_iload_n C dX10_notesOf_14 rfl rfl ?_
    refine v_aload_n C dX10_notesOf_15 rfl rfl ?_
    refine v_iload_n C dX10_notesOf_16 rfl rfl ?_
    refine v_iconst C dX10_notesOf_17 ki_1 ?_
    refine cVi C 10 0 0 (av := [.int x4, .int (1 : Int32)]) si_X10_ofNote lk_X10_78 (ok10) rfl rfl rfl rfl (st := [.int x3]) rfl (Nat.le_of_ble_eq_true rfl) dX10_notesOf_18 h (fun _ _ hc => s_X10_ofNote (d := d) x4 (1 : Int32)  hc) (fun r5 σ6 h => ?_)
    refine v_iload_n C dX10_notesOf_21 rfl rfl ?_
    refine v_icmp_ne C dX10_notesOf_22 (tgt := 29) (by decide) h (fun h => ?_) (fun h => ?_)
    · refine v_iconst C dX10_notesOf_29 ki_0 ?_
      refine v_iadd C dX10_notesOf_30 ?_
      refine v_istore_n C dX10_notesOf_31 rfl (Nat.le_of_ble_eq_true rfl) (lc1 := [some (.ref (ad G 10 0 0)), some (.int a1), some (.int (x3 + (0 : Int32))), some (.int x4)]) rfl ?_
      refine v_iinc C dX10_notesOf_32 rfl (kc_1 _) (lc1 := [some (.ref (ad G 10 0 0)), some (.int a1), some (.int (x3 + (0 : Int32))), some (.int (x4 + 1))]) rfl ?_
      refine v_goto C dX10_notesOf_35 (tgt := 4) (by decide) ?_
      refine v_mask [true, true, true, true] (lc' := [some (.ref (ad G 10 0 0)), some (.int a1), some (.int (x3 + (0 : Int32))), some (.int (x4 + 1))]) rfl ?_
      exact hrec1 _ _ _ h
    · refine v_iconst C dX10_notesOf_25 ki_1 ?_
      refine v_goto C dX10_notesOf_26 (tgt := 30) (by decide) ?_
      refine v_iadd C dX10_notesOf_30 ?_
      refine v_istore_n C dX10_notesOf_31 rfl (Nat.le_of_ble_eq_true rfl) (lc1 := [some (.ref (ad G 10 0 0)), some (.int a1), some (.int (x3 + (1 : Int32))), some (.int x4)]) rfl ?_
      refine v_iinc C dX10_notesOf_32 rfl (kc_1 _) (lc1 := [some (.ref (ad G 10 0 0)), some (.int a1), some (.int (x3 + (1 : Int32))), some (.int (x4 + 1))]) rfl ?_
      refine v_goto C dX10_notesOf_35 (tgt := 4) (by decide) ?_
      refine v_mask [true, true, true, true] (lc' := [some (.ref (ad G 10 0 0)), some (.int a1), some (.int (x3 + (1 : Int32))), some (.int (x4 + 1))]) rfl ?_
      exact hrec1 _ _ _ h

def dc_X10_loan (a1 : Int32) (a2 : Int32) (σ : Sto) : Option (Int32 × Sto) :=
  (bd (dc_X10_isLoan a1 (up σ 160 0 0 (0 : Int32))) fun r1 σ2 => (if r1 = 0 then some ((-1 : Int32), σ2) else (if a2 = (0 : Int32) then (bd (dc_X10_of a1 (3 : Int32) σ2) fun r3 σ4 => some (r3, σ4)) else (if a2 = (1 : Int32) then (bd (dc_X10_of a1 (0 : Int32) σ2) fun r6 σ7 => some (r6, σ7)) else (if a2 = (2 : Int32) then (bd (dc_X10_runs a1 σ2) fun r9 σ10 => (if r9 = 0 then some ((0 : Int32), σ10) else (bd (dc_X10_of a1 (4 : Int32) σ10) fun r11 σ12 => some (r11, σ12)))) else (if a2 = (3 : Int32) then (bd (dc_X10_of a1 (a2 + (2 : Int32)) σ2) fun r14 σ15 => some (r14, σ15)) else (if a2 = (4 : Int32) then (bd (dc_X10_of a1 (a2 + (2 : Int32)) σ2) fun r17 σ18 => some (r17, σ18)) else (if a2 = (5 : Int32) then (bd (dc_X10_of a1 (a2 + (2 : Int32)) σ2) fun r20 σ21 => some (r20, σ21)) else (if a2 = (6 : Int32) then (bd (dc_X10_of a1 (a2 + (2 : Int32)) σ2) fun r23 σ24 => some (r23, σ24)) else (if a2 = (7 : Int32) then (bd (dc_X10_of a1 (a2 + (2 : Int32)) σ2) fun r26 σ27 => some (r26, σ27)) else (if a2 = (8 : Int32) then (bd (dc_X10_of a1 (a2 + (2 : Int32)) σ2) fun r29 σ30 => some (r29, σ30)) else (if a2 = (9 : Int32) then (bd (dc_X10_missing a1 σ2) fun r32 σ33 => some (r32, σ33)) else (if a2 = (10 : Int32) then (bd (dc_X10_notesOf a1 σ2) fun r35 σ36 => some (r35, σ36)) else (if a2 = (11 : Int32) then (bd (dc_X10_principals a1 (a2 - (11 : Int32)) σ2) fun r38 σ39 => some (r38, σ39)) else (if a2 = (12 : Int32) then (bd (dc_X10_principals a1 (a2 - (11 : Int32)) σ2) fun r41 σ42 => some (r41, σ42)) else some ((-2 : Int32), σ2))))))))))))))))
set_option maxRecDepth 20000 in
set_option maxHeartbeats 4000000 in
theorem s_X10_loan {G : Gm} {d : Nat} (a1 : Int32) (a2 : Int32) {σ τ : Sto} {r : Int32} (h : dc_X10_loan a1 a2 σ = some (r, τ)) : Cl G (d + 3) m_X10_loan [.ref (ad G 10 0 0), .int a1, .int a2] σ (some (.int r)) τ := by
  unfold dc_X10_loan at h
  refine Cl.mk (cc := cX10_loan) (own := RX10) (nL := 3) (ret := (some .int)) rfl rfl rfl rfl (by decide +kernel) (catA rfl) (Nat.le_of_ble_eq_true rfl) (fun X C => ?_)
  show V X G 0 0 (QE X G (some (.int r)) τ) σ 0 [some (.ref (ad G 10 0 0)), some (.int a1), some (.int a2)] []
  refine v_aload_n C dX10_loan_0 rfl rfl ?_
  refine v_iconst C dX10_loan_1 ki_0 ?_
  refine pf_X10_1 C dX10_loan_2 ?_
  refine v_aload_n C dX10_loan_5 rfl rfl ?_
  refine v_iload_n C dX10_loan_6 rfl rfl ?_
  refine cVi C 10 0 0 (av := [.int a1]) si_X10_isLoan lk_X10_84 (ok10) rfl rfl rfl rfl (st := []) rfl (Nat.le_of_ble_eq_true rfl) dX10_loan_7 h (fun _ _ hc => s_X10_isLoan (d := (d + 1)) a1  hc) (fun r1 σ2 h => ?_)
  refine v_if_ne C dX10_loan_10 (tgt := 15) (by decide) h (fun h => ?_) (fun h => ?_)
  · refine v_iload_n C dX10_loan_15 rfl rfl ?_
    refine v_tcase h (fun hc5 h => ?_) (fun hc5 h => ?_)
    · refine v_tin C dX10_loan_16 (tgt := 84) (by rw [hc5]; decide) (by rw [hc5]; decide) (by rw [hc5]; exact rfl) (by decide) ?_
      refine v_aload_n C dX10_loan_84 rfl rfl ?_
      refine v_iload_n C dX10_loan_85 rfl rfl ?_
      refine v_iconst C dX10_loan_86 ki_3 ?_
      refine cVi C 10 0 0 (av := [.int a1, .int (3 : Int32)]) si_X10_of lk_X10_42 (ok10) rfl rfl rfl rfl (st := []) rfl (Nat.le_of_ble_eq_true rfl) dX10_loan_87 h (fun _ _ hc => s_X10_of (d := (d + 2)) a1 (3 : Int32)  hc) (fun r3 σ4 h => ?_)
      exact v_iret C dX10_loan_90 h
    refine v_tcase h (fun hc8 h => ?_) (fun hc8 h => ?_)
    · refine v_tin C dX10_loan_16 (tgt := 91) (by rw [hc8]; decide) (by rw [hc8]; decide) (by rw [hc8]; exact rfl) (by decide) ?_
      refine v_aload_n C dX10_loan_91 rfl rfl ?_
      refine v_iload_n C dX10_loan_92 rfl rfl ?_
      refine v_iconst C dX10_loan_93 ki_0 ?_
      refine cVi C 10 0 0 (av := [.int a1, .int (0 : Int32)]) si_X10_of lk_X10_42 (ok10) rfl rfl rfl rfl (st := []) rfl (Nat.le_of_ble_eq_true rfl) dX10_loan_94 h (fun _ _ hc => s_X10_of (d := (d + 2)) a1 (0 : Int32)  hc) (fun r6 σ7 h => ?_)
      exact v_iret C dX10_loan_97 h
    refine v_tcase h (fun hc13 h => ?_) (fun hc13 h => ?_)
    · refine v_tin C dX10_loan_16 (tgt := 98) (by rw [hc13]; decide) (by rw [hc13]; decide) (by rw [hc13]; exact rfl) (by decide) ?_
      refine v_aload_n C dX10_loan_98 rfl rfl ?_
      refine v_iload_n C dX10_loan_99 rfl rfl ?_
      refine cVi C 10 0 0 (av := [.int a1]) si_X10_runs lk_X10_114 (ok10) rfl rfl rfl rfl (st := []) rfl (Nat.le_of_ble_eq_true rfl) dX10_loan_100 h (fun _ _ hc => s_X10_runs (d := (d + 1)) a1  hc) (fun r9 σ10 h => ?_)
      refine v_if_eq C dX10_loan_103 (tgt := 115) (by decide) h (fun h => ?_) (fun h => ?_)
      · refine v_iconst C dX10_loan_115 ki_0 ?_
        exact v_iret C dX10_loan_116 h
      · refine v_aload_n C dX10_loan_106 rfl rfl ?_
        refine v_iload_n C dX10_loan_107 rfl rfl ?_
        refine v_iconst C dX10_loan_108 ki_4 ?_
        refine cVi C 10 0 0 (av := [.int a1, .int (4 : Int32)]) si_X10_of lk_X10_42 (ok10) rfl rfl rfl rfl (st := []) rfl (Nat.le_of_ble_eq_true rfl) dX10_loan_109 h (fun _ _ hc => s_X10_of (d := (d + 2)) a1 (4 : Int32)  hc) (fun r11 σ12 h => ?_)
        refine v_goto C dX10_loan_112 (tgt := 116) (by decide) ?_
        exact v_iret C dX10_loan_116 h
    refine v_tcase h (fun hc16 h => ?_) (fun hc16 h => ?_)
    · refine v_tin C dX10_loan_16 (tgt := 117) (by rw [hc16]; decide) (by rw [hc16]; decide) (by rw [hc16]; exact rfl) (by decide) ?_
      refine v_aload_n C dX10_loan_117 rfl rfl ?_
      refine v_iload_n C dX10_loan_118 rfl rfl ?_
      refine v_iload_n C dX10_loan_119 rfl rfl ?_
      refine v_iconst C dX10_loan_120 ki_2 ?_
      refine v_iadd C dX10_loan_121 ?_
      refine cVi C 10 0 0 (av := [.int a1, .int (a2 + (2 : Int32))]) si_X10_of lk_X10_42 (ok10) rfl rfl rfl rfl (st := []) rfl (Nat.le_of_ble_eq_true rfl) dX10_loan_122 h (fun _ _ hc => s_X10_of (d := (d + 2)) a1 (a2 + (2 : Int32))  hc) (fun r14 σ15 h => ?_)
      exact v_iret C dX10_loan_125 h
    refine v_tcase h (fun hc19 h => ?_) (fun hc19 h => ?_)
    · refine v_tin C dX10_loan_16 (tgt := 117) (by rw [hc19]; decide) (by rw [hc19]; decide) (by rw [hc19]; exact rfl) (by decide) ?_
      refine v_aload_n C dX10_loan_117 rfl rfl ?_
      refine v_iload_n C dX10_loan_118 rfl rfl ?_
      refine v_iload_n C dX10_loan_119 rfl rfl ?_
      refine v_iconst C dX10_loan_120 ki_2 ?_
      refine v_iadd C dX10_loan_121 ?_
      refine cVi C 10 0 0 (av := [.int a1, .int (a2 + (2 : Int32))]) si_X10_of lk_X10_42 (ok10) rfl rfl rfl rfl (st := []) rfl (Nat.le_of_ble_eq_true rfl) dX10_loan_122 h (fun _ _ hc => s_X10_of (d := (d + 2)) a1 (a2 + (2 : Int32))  hc) (fun r17 σ18 h => ?_)
      exact v_iret C dX10_loan_125 h
    refine v_tcase h (fun hc22 h => ?_) (fun hc22 h => ?_)
    · refine v_tin C dX10_loan_16 (tgt := 117) (by rw [hc22]; decide) (by rw [hc22]; decide) (by rw [hc22]; exact rfl) (by decide) ?_
      refine v_aload_n C dX10_loan_117 rfl rfl ?_
      refine v_iload_n C dX10_loan_118 rfl rfl ?_
      refine v_iload_n C dX10_loan_119 rfl rfl ?_
      refine v_iconst C dX10_loan_120 ki_2 ?_
      refine v_iadd C dX10_loan_121 ?_
      refine cVi C 10 0 0 (av := [.int a1, .int (a2 + (2 : Int32))]) si_X10_of lk_X10_42 (ok10) rfl rfl rfl rfl (st := []) rfl (Nat.le_of_ble_eq_true rfl) dX10_loan_122 h (fun _ _ hc => s_X10_of (d := (d + 2)) a1 (a2 + (2 : Int32))  hc) (fun r20 σ21 h => ?_)
      exact v_iret C dX10_loan_125 h
    refine v_tcase h (fun hc25 h => ?_) (fun hc25 h => ?_)
    · refine v_tin C dX10_loan_16 (tgt := 117) (by rw [hc25]; decide) (by rw [hc25]; decide) (by rw [hc25]; exact rfl) (by decide) ?_
      refine v_aload_n C dX10_loan_117 rfl rfl ?_
      refine v_iload_n C dX10_loan_118 rfl rfl ?_
      refine v_iload_n C dX10_loan_119 rfl rfl ?_
      refine v_iconst C dX10_loan_120 ki_2 ?_
      refine v_iadd C dX10_loan_121 ?_
      refine cVi C 10 0 0 (av := [.int a1, .int (a2 + (2 : Int32))]) si_X10_of lk_X10_42 (ok10) rfl rfl rfl rfl (st := []) rfl (Nat.le_of_ble_eq_true rfl) dX10_loan_122 h (fun _ _ hc => s_X10_of (d := (d + 2)) a1 (a2 + (2 : Int32))  hc) (fun r23 σ24 h => ?_)
      exact v_iret C dX10_loan_125 h
    refine v_tcase h (fun hc28 h => ?_) (fun hc28 h => ?_)
    · refine v_tin C dX10_loan_16 (tgt := 117) (by rw [hc28]; decide) (by rw [hc28]; decide) (by rw [hc28]; exact rfl) (by decide) ?_
      refine v_aload_n C dX10_loan_117 rfl rfl ?_
      refine v_iload_n C dX10_loan_118 rfl rfl ?_
      refine v_iload_n C dX10_loan_119 rfl rfl ?_
      refine v_iconst C dX10_loan_120 ki_2 ?_
      refine v_iadd C dX10_loan_121 ?_
      refine cVi C 10 0 0 (av := [.int a1, .int (a2 + (2 : Int32))]) si_X10_of lk_X10_42 (ok10) rfl rfl rfl rfl (st := []) rfl (Nat.le_of_ble_eq_true rfl) dX10_loan_122 h (fun _ _ hc => s_X10_of (d := (d + 2)) a1 (a2 + (2 : Int32))  hc) (fun r26 σ27 h => ?_)
      exact v_iret C dX10_loan_125 h
    refine v_tcase h (fun hc31 h => ?_) (fun hc31 h => ?_)
    · refine v_tin C dX10_loan_16 (tgt := 117) (by rw [hc31]; decide) (by rw [hc31]; decide) (by rw [hc31]; exact rfl) (by decide) ?_
      refine v_aload_n C dX10_loan_117 rfl rfl ?_
      refine v_iload_n C dX10_loan_118 rfl rfl ?_
      refine v_iload_n C dX10_loan_119 rfl rfl ?_
      refine v_iconst C dX10_loan_120 ki_2 ?_
      refine v_iadd C dX10_loan_121 ?_
      refine cVi C 10 0 0 (av := [.int a1, .int (a2 + (2 : Int32))]) si_X10_of lk_X10_42 (ok10) rfl rfl rfl rfl (st := []) rfl (Nat.le_of_ble_eq_true rfl) dX10_loan_122 h (fun _ _ hc => s_X10_of (d := (d + 2)) a1 (a2 + (2 : Int32))  hc) (fun r29 σ30 h => ?_)
      exact v_iret C dX10_loan_125 h
    refine v_tcase h (fun hc34 h => ?_) (fun hc34 h => ?_)
    · refine v_tin C dX10_loan_16 (tgt := 126) (by rw [hc34]; decide) (by rw [hc34]; decide) (by rw [hc34]; exact rfl) (by decide) ?_
      refine v_aload_n C dX10_loan_126 rfl rfl ?_
      refine v_iload_n C dX10_loan_127 rfl rfl ?_
      refine cVi C 10 0 0 (av := [.int a1]) si_X10_missing lk_X10_87 (ok10) rfl rfl rfl rfl (st := []) rfl (Nat.le_of_ble_eq_true rfl) dX10_loan_128 h (fun _ _ hc => s_X10_missing (d := d) a1  hc) (fun r32 σ33 h => ?_)
      exact v_iret C dX10_loan_131 h
    refine v_tcase h (fun hc37 h => ?_) (fun hc37 h => ?_)
    · refine v_tin C dX10_loan_16 (tgt := 132) (by rw [hc37]; decide) (by rw [hc37]; decide) (by rw [hc37]; exact rfl) (by decide) ?_
      refine v_aload_n C dX10_loan_132 rfl rfl ?_
      refine v_iload_n C dX10_loan_133 rfl rfl ?_
      refine cVi C 10 0 0 (av := [.int a1]) si_X10_notesOf lk_X10_179 (ok10) rfl rfl rfl rfl (st := []) rfl (Nat.le_of_ble_eq_true rfl) dX10_loan_134 h (fun _ _ hc => s_X10_notesOf (d := (d + 1)) a1  hc) (fun r35 σ36 h => ?_)
      exact v_iret C dX10_loan_137 h
    refine v_tcase h (fun hc40 h => ?_) (fun hc40 h => ?_)
    · refine v_tin C dX10_loan_16 (tgt := 138) (by rw [hc40]; decide) (by rw [hc40]; decide) (by rw [hc40]; exact rfl) (by decide) ?_
      refine v_aload_n C dX10_loan_138 rfl rfl ?_
      refine v_iload_n C dX10_loan_139 rfl rfl ?_
      refine v_iload_n C dX10_loan_140 rfl rfl ?_
      refine v_bipush C dX10_loan_141 kb_11 ?_
      refine v_isub C dX10_loan_143 ?_
      refine cVi C 10 0 0 (av := [.int a1, .int (a2 - (11 : Int32))]) si_X10_principals lk_X10_81 (ok10) rfl rfl rfl rfl (st := []) rfl (Nat.le_of_ble_eq_true rfl) dX10_loan_144 h (fun _ _ hc => s_X10_principals (d := (d + 1)) a1 (a2 - (11 : Int32))  hc) (fun r38 σ39 h => ?_)
      exact v_iret C dX10_loan_147 h
    refine v_tcase h (fun hc43 h => ?_) (fun hc43 h => ?_)
    · refine v_tin C dX10_loan_16 (tgt := 138) (by rw [hc43]; decide) (by rw [hc43]; decide) (by rw [hc43]; exact rfl) (by decide) ?_
      refine v_aload_n C dX10_loan_138 rfl rfl ?_
      refine v_iload_n C dX10_loan_139 rfl rfl ?_
      refine v_iload_n C dX10_loan_140 rfl rfl ?_
      refine v_bipush C dX10_loan_141 kb_11 ?_
      refine v_isub C dX10_loan_143 ?_
      refine cVi C 10 0 0 (av := [.int a1, .int (a2 - (11 : Int32))]) si_X10_principals lk_X10_81 (ok10) rfl rfl rfl rfl (st := []) rfl (Nat.le_of_ble_eq_true rfl) dX10_loan_144 h (fun _ _ hc => s_X10_principals (d := (d + 1)) a1 (a2 - (11 : Int32))  hc) (fun r41 σ42 h => ?_)
      exact v_iret C dX10_loan_147 h
    have hc5t := tne hc5 (a := 0) (by decide)
    have hc8t := tne hc8 (a := 1) (by decide)
    have hc13t := tne hc13 (a := 2) (by decide)
    have hc16t := tne hc16 (a := 3) (by decide)
    have hc19t := tne hc19 (a := 4) (by decide)
    have hc22t := tne hc22 (a := 5) (by decide)
    have hc25t := tne hc25 (a := 6) (by decide)
    have hc28t := tne hc28 (a := 7) (by decide)
    have hc31t := tne hc31 (a := 8) (by decide)
    have hc34t := tne hc34 (a := 9) (by decide)
    have hc37t := tne hc37 (a := 10) (by decide)
    have hc40t := tne hc40 (a := 11) (by decide)
    have hc43t := tne hc43 (a := 12) (by decide)
    refine v_tout C dX10_loan_16 (tgt := 148) (by omega) (by decide) ?_
    refine v_bipush C dX10_loan_148 kb_m2 ?_
    exact v_iret C dX10_loan_150 h
  · refine v_iconst C dX10_loan_13 ki_m1 ?_
    exact v_iret C dX10_loan_14 h

def dc_X10_note (a1 : Int32) (a2 : Int32) (σ : Sto) : Option (Int32 × Sto) :=
  (bd (dc_X10_isNote a1 (up σ 160 0 0 (0 : Int32))) fun r1 σ2 => (if r1 = 0 then some ((-1 : Int32), σ2) else (bd (dc_X10_in a2 (0 : Int32) (6 : Int32) σ2) fun r3 σ4 => (if r3 = 0 then some ((-2 : Int32), σ4) else (bd (dc_X10_ofNote a1 a2 σ4) fun r5 σ6 => some (r5, σ6))))))
set_option maxRecDepth 20000 in
set_option maxHeartbeats 4000000 in
theorem s_X10_note {G : Gm} {d : Nat} (a1 : Int32) (a2 : Int32) {σ τ : Sto} {r : Int32} (h : dc_X10_note a1 a2 σ = some (r, τ)) : Cl G (d + 2) m_X10_note [.ref (ad G 10 0 0), .int a1, .int a2] σ (some (.int r)) τ := by
  unfold dc_X10_note at h
  refine Cl.mk (cc := cX10_note) (own := RX10) (nL := 3) (ret := (some .int)) rfl rfl rfl rfl (by decide +kernel) (catA rfl) (Nat.le_of_ble_eq_true rfl) (fun X C => ?_)
  show V X G 0 0 (QE X G (some (.int r)) τ) σ 0 [some (.ref (ad G 10 0 0)), some (.int a1), some (.int a2)] []
  refine v_aload_n C dX10_note_0 rfl rfl ?_
  refine v_iconst C dX10_note_1 ki_0 ?_
  refine pf_X10_1 C dX10_note_2 ?_
  refine v_aload_n C dX10_note_5 rfl rfl ?_
  refine v_iload_n C dX10_note_6 rfl rfl ?_
  refine cVi C 10 0 0 (av := [.int a1]) si_X10_isNote lk_X10_140 (ok10) rfl rfl rfl rfl (st := []) rfl (Nat.le_of_ble_eq_true rfl) dX10_note_7 h (fun _ _ hc => s_X10_isNote (d := d) a1  hc) (fun r1 σ2 h => ?_)
  refine v_if_ne C dX10_note_10 (tgt := 15) (by decide) h (fun h => ?_) (fun h => ?_)
  · refine v_iload_n C dX10_note_15 rfl rfl ?_
    refine v_iconst C dX10_note_16 ki_0 ?_
    refine v_bipush C dX10_note_17 kb_6 ?_
    refine cSi C (av := [.int a2, .int (0 : Int32), .int (6 : Int32)]) si_X10_in lk_X10_38 rfl rfl (st := []) rfl (Nat.le_of_ble_eq_true rfl) dX10_note_19 h (fun _ _ hc => s_X10_in (d := (d + 1)) a2 (0 : Int32) (6 : Int32)  hc) (fun r3 σ4 h => ?_)
    refine v_if_eq C dX10_note_22 (tgt := 34) (by decide) h (fun h => ?_) (fun h => ?_)
    · refine v_bipush C dX10_note_34 kb_m2 ?_
      exact v_iret C dX10_note_36 h
    · refine v_aload_n C dX10_note_25 rfl rfl ?_
      refine v_iload_n C dX10_note_26 rfl rfl ?_
      refine v_iload_n C dX10_note_27 rfl rfl ?_
      refine cVi C 10 0 0 (av := [.int a1, .int a2]) si_X10_ofNote lk_X10_78 (ok10) rfl rfl rfl rfl (st := []) rfl (Nat.le_of_ble_eq_true rfl) dX10_note_28 h (fun _ _ hc => s_X10_ofNote (d := (d + 1)) a1 a2  hc) (fun r5 σ6 h => ?_)
      refine v_goto C dX10_note_31 (tgt := 36) (by decide) ?_
      exact v_iret C dX10_note_36 h
  · refine v_iconst C dX10_note_13 ki_m1 ?_
    exact v_iret C dX10_note_14 h

def dc_X10_split (a1 : Int32) (a2 : Int32) (a3 : Int32) (σ : Sto) : Option (Int32 × Sto) :=
  (bd (dc_X10_isLoan a1 (up σ 160 0 0 (0 : Int32))) fun r1 σ2 => (if r1 = 0 then some ((-1 : Int32), σ2) else (bd (dc_X10_in a2 (1 : Int32) (199999 : Int32) σ2) fun r3 σ4 => (if r3 = 0 then some ((-2 : Int32), σ4) else (bd (dc_X10_in a3 (0 : Int32) (5 : Int32) σ4) fun r5 σ6 => (if r5 = 0 then some ((-2 : Int32), σ6) else (bd (dc_X10_canPay a1 a2 σ6) fun r7 σ8 => (if r7 = 0 then some ((-4 : Int32), σ8) else (bd (dc_X10_splitBy a1 a2 a3 σ8) fun r9 σ10 => some (r9, σ10))))))))))
set_option maxRecDepth 20000 in
set_option maxHeartbeats 4000000 in
theorem s_X10_split {G : Gm} {d : Nat} (a1 : Int32) (a2 : Int32) (a3 : Int32) {σ τ : Sto} {r : Int32} (h : dc_X10_split a1 a2 a3 σ = some (r, τ)) : Cl G (d + 3) m_X10_split [.ref (ad G 10 0 0), .int a1, .int a2, .int a3] σ (some (.int r)) τ := by
  unfold dc_X10_split at h
  refine Cl.mk (cc := cX10_split) (own := RX10) (nL := 4) (ret := (some .int)) rfl rfl rfl rfl (by decide +kernel) (catA rfl) (Nat.le_of_ble_eq_true rfl) (fun X C => ?_)
  show V X G 0 0 (QE X G (some (.int r)) τ) σ 0 [some (.ref (ad G 10 0 0)), some (.int a1), some (.int a2), some (.int a3)] []
  refine v_aload_n C dX10_split_0 rfl rfl ?_
  refine v_iconst C dX10_split_1 ki_0 ?_
  refine pf_X10_1 C dX10_split_2 ?_
  refine v_aload_n C dX10_split_5 rfl rfl ?_
  refine v_iload_n C dX10_split_6 rfl rfl ?_
  refine cVi C 10 0 0 (av := [.int a1]) si_X10_isLoan lk_X10_84 (ok10) rfl rfl rfl rfl (st := []) rfl (Nat.le_of_ble_eq_true rfl) dX10_split_7 h (fun _ _ hc => s_X10_isLoan (d := (d + 1)) a1  hc) (fun r1 σ2 h => ?_)
  refine v_if_ne C dX10_split_10 (tgt := 15) (by decide) h (fun h => ?_) (fun h => ?_)
  · refine v_iload_n C dX10_split_15 rfl rfl ?_
    refine v_iconst C dX10_split_16 ki_1 ?_
    refine v_ldc C dX10_split_17 lk_X10_122 ?_
    refine cSi C (av := [.int a2, .int (1 : Int32), .int (199999 : Int32)]) si_X10_in lk_X10_38 rfl rfl (st := []) rfl (Nat.le_of_ble_eq_true rfl) dX10_split_19 h (fun _ _ hc => s_X10_in (d := (d + 2)) a2 (1 : Int32) (199999 : Int32)  hc) (fun r3 σ4 h => ?_)
    refine v_if_eq C dX10_split_22 (tgt := 34) (by decide) h (fun h => ?_) (fun h => ?_)
    · refine v_bipush C dX10_split_34 kb_m2 ?_
      exact v_iret C dX10_split_36 h
    · refine v_iload_n C dX10_split_25 rfl rfl ?_
      refine v_iconst C dX10_split_26 ki_0 ?_
      refine v_iconst C dX10_split_27 ki_5 ?_
      refine cSi C (av := [.int a3, .int (0 : Int32), .int (5 : Int32)]) si_X10_in lk_X10_38 rfl rfl (st := []) rfl (Nat.le_of_ble_eq_true rfl) dX10_split_28 h (fun _ _ hc => s_X10_in (d := (d + 2)) a3 (0 : Int32) (5 : Int32)  hc) (fun r5 σ6 h => ?_)
      refine v_if_ne C dX10_split_31 (tgt := 37) (by decide) h (fun h => ?_) (fun h => ?_)
      · refine v_aload_n C dX10_split_37 rfl rfl ?_
        refine v_iload_n C dX10_split_38 rfl rfl ?_
        refine v_iload_n C dX10_split_39 rfl rfl ?_
        refine cVi C 10 0 0 (av := [.int a1, .int a2]) si_X10_canPay lk_X10_123 (ok10) rfl rfl rfl rfl (st := []) rfl (Nat.le_of_ble_eq_true rfl) dX10_split_40 h (fun _ _ hc => s_X10_canPay (d := d) a1 a2  hc) (fun r7 σ8 h => ?_)
        refine v_if_eq C dX10_split_43 (tgt := 56) (by decide) h (fun h => ?_) (fun h => ?_)
        · refine v_bipush C dX10_split_56 kb_m4 ?_
          exact v_iret C dX10_split_58 h
        · refine v_aload_n C dX10_split_46 rfl rfl ?_
          refine v_iload_n C dX10_split_47 rfl rfl ?_
          refine v_iload_n C dX10_split_48 rfl rfl ?_
          refine v_iload_n C dX10_split_49 rfl rfl ?_
          refine cVi C 10 0 0 (av := [.int a1, .int a2, .int a3]) si_X10_splitBy lk_X10_127 (ok10) rfl rfl rfl rfl (st := []) rfl (Nat.le_of_ble_eq_true rfl) dX10_split_50 h (fun _ _ hc => s_X10_splitBy (d := d) a1 a2 a3  hc) (fun r9 σ10 h => ?_)
          refine v_goto C dX10_split_53 (tgt := 58) (by decide) ?_
          exact v_iret C dX10_split_58 h
      · refine v_bipush C dX10_split_34 kb_m2 ?_
        exact v_iret C dX10_split_36 h
  · refine v_iconst C dX10_split_13 ki_m1 ?_
    exact v_iret C dX10_split_14 h

def dc_X10_toRepay (a1 : Int32) (σ : Sto) : Option (Int32 × Sto) :=
  (bd (dc_X10_isLoan a1 (up σ 160 0 0 (0 : Int32))) fun r1 σ2 => (if r1 = 0 then some ((-1 : Int32), σ2) else (bd (dc_X10_runs a1 σ2) fun r3 σ4 => (if r3 = 0 then some ((-4 : Int32), σ4) else (bd (dc_X10_of a1 (6 : Int32) σ4) fun r5 σ6 => (bd (dc_X10_of a1 (4 : Int32) σ6) fun r7 σ8 => wh1 (fun (rec9 : Int32 → Sto → Option (Int32 × Sto)) (x11 : Int32) (σ10 : Sto) => (bd (dc_X10_feeFor a1 x11 σ10) fun r12 σ13 => (if (r5 + r7) ≤ (x11 - r12) then some (x11, σ13) else rec9 (x11 + 1) σ13))) FU (r5 + r7) σ8))))))
set_option maxRecDepth 20000 in
set_option maxHeartbeats 4000000 in
theorem s_X10_toRepay {G : Gm} {d : Nat} (a1 : Int32) {σ τ : Sto} {r : Int32} (h : dc_X10_toRepay a1 σ = some (r, τ)) : Cl G (d + 2) m_X10_toRepay [.ref (ad G 10 0 0), .int a1] σ (some (.int r)) τ := by
  unfold dc_X10_toRepay at h
  refine Cl.mk (cc := cX10_toRepay) (own := RX10) (nL := 4) (ret := (some .int)) rfl rfl rfl rfl (by decide +kernel) (catA rfl) (Nat.le_of_ble_eq_true rfl) (fun X C => ?_)
  show V X G 0 0 (QE X G (some (.int r)) τ) σ 0 [some (.ref (ad G 10 0 0)), some (.int a1), none, none] []
  refine v_aload_n C dX10_toRepay_0 rfl rfl ?_
  refine v_iconst C dX10_toRepay_1 ki_0 ?_
  refine pf_X10_1 C dX10_toRepay_2 ?_
  refine v_aload_n C dX10_toRepay_5 rfl rfl ?_
  refine v_iload_n C dX10_toRepay_6 rfl rfl ?_
  refine cVi C 10 0 0 (av := [.int a1]) si_X10_isLoan lk_X10_84 (ok10) rfl rfl rfl rfl (st := []) rfl (Nat.le_of_ble_eq_true rfl) dX10_toRepay_7 h (fun _ _ hc => s_X10_isLoan (d := d) a1  hc) (fun r1 σ2 h => ?_)
  refine v_if_ne C dX10_toRepay_10 (tgt := 15) (by decide) h (fun h => ?_) (fun h => ?_)
  · refine v_aload_n C dX10_toRepay_15 rfl rfl ?_
    refine v_iload_n C dX10_toRepay_16 rfl rfl ?_
    refine cVi C 10 0 0 (av := [.int a1]) si_X10_runs lk_X10_114 (ok10) rfl rfl rfl rfl (st := []) rfl (Nat.le_of_ble_eq_true rfl) dX10_toRepay_17 h (fun _ _ hc => s_X10_runs (d := d) a1  hc) (fun r3 σ4 h => ?_)
    refine v_if_ne C dX10_toRepay_20 (tgt := 26) (by decide) h (fun h => ?_) (fun h => ?_)
    · refine v_aload_n C dX10_toRepay_26 rfl rfl ?_
      refine v_iload_n C dX10_toRepay_27 rfl rfl ?_
      refine v_bipush C dX10_toRepay_28 kb_6 ?_
      refine cVi C 10 0 0 (av := [.int a1, .int (6 : Int32)]) si_X10_of lk_X10_42 (ok10) rfl rfl rfl rfl (st := []) rfl (Nat.le_of_ble_eq_true rfl) dX10_toRepay_30 h (fun _ _ hc => s_X10_of (d := (d + 1)) a1 (6 : Int32)  hc) (fun r5 σ6 h => ?_)
      refine v_aload_n C dX10_toRepay_33 rfl rfl ?_
      refine v_iload_n C dX10_toRepay_34 rfl rfl ?_
      refine v_iconst C dX10_toRepay_35 ki_4 ?_
      refine cVi C 10 0 0 (av := [.int a1, .int (4 : Int32)]) si_X10_of lk_X10_42 (ok10) rfl rfl rfl rfl (st := [.int r5]) rfl (Nat.le_of_ble_eq_true rfl) dX10_toRepay_36 h (fun _ _ hc => s_X10_of (d := (d + 1)) a1 (4 : Int32)  hc) (fun r7 σ8 h => ?_)
      refine v_iadd C dX10_toRepay_39 ?_
      refine v_istore_n C dX10_toRepay_40 rfl (Nat.le_of_ble_eq_true rfl) (lc1 := [some (.ref (ad G 10 0 0)), some (.int a1), some (.int (r5 + r7)), none]) rfl ?_
      refine v_iload_n C dX10_toRepay_41 rfl rfl ?_
      refine v_istore_n C dX10_toRepay_42 rfl (Nat.le_of_ble_eq_true rfl) (lc1 := [some (.ref (ad G 10 0 0)), some (.int a1), some (.int (r5 + r7)), some (.int (r5 + r7))]) rfl ?_
      refine v_loop1 (fun x11 σ10 => V X G 0 0 (QE X G (some (.int r)) τ) σ10 43 [some (.ref (ad G 10 0 0)), some (.int a1), some (.int (r5 + r7)), some (.int x11)] []) (fun rec9 hrec9 x11 σ10 h => ?_) h
      refine v_iload_n C dX10_toRepay_43 rfl rfl ?_
      refine v_aload_n C dX10_toRepay_44 rfl rfl ?_
      refine v_iload_n C dX10_toRepay_45 rfl rfl ?_
      refine v_iload_n C dX10_toRepay_46 rfl rfl ?_
      refine cVi C 10 0 0 (av := [.int a1, .int x11]) si_X10_feeFor lk_X10_117 (ok10) rfl rfl rfl rfl (st := [.int x11]) rfl (Nat.le_of_ble_eq_true rfl) dX10_toRepay_47 h (fun _ _ hc => s_X10_feeFor (d := d) a1 x11  hc) (fun r12 σ13 h => ?_)
      refine v_isub C dX10_toRepay_50 ?_
      refine v_iload_n C dX10_toRepay_51 rfl rfl ?_
      refine v_icmp_ge C dX10_toRepay_52 (tgt := 61) (by decide) h (fun h => ?_) (fun h => ?_)
      · refine v_iload_n C dX10_toRepay_61 rfl rfl ?_
        exact v_iret C dX10_toRepay_62 h
      · refine v_iinc C dX10_toRepay_55 rfl (kc_1 _) (lc1 := [some (.ref (ad G 10 0 0)), some (.int a1), some (.int (r5 + r7)), some (.int (x11 + 1))]) rfl ?_
        refine v_goto C dX10_toRepay_58 (tgt := 43) (by decide) ?_
        refine v_mask [true, true, true, true] (lc' := [some (.ref (ad G 10 0 0)), some (.int a1), some (.int (r5 + r7)), some (.int (x11 + 1))]) rfl ?_
        exact hrec9 _ _ h
    · refine v_bipush C dX10_toRepay_23 kb_m4 ?_
      exact v_iret C dX10_toRepay_25 h
  · refine v_iconst C dX10_toRepay_13 ki_m1 ?_
    exact v_iret C dX10_toRepay_14 h

def dc_X10_runningWith (a1 : Int32) (σ : Sto) : Option (Int32 × Sto) :=
  wh2 (fun (rec1 : Int32 → Int32 → Sto → Option (Int32 × Sto)) (x3 : Int32) (x4 : Int32) (σ2 : Sto) => (if inb (2 : Int32) 564 then (if (σ2.1 304 0 (2 : Int32).toNatClampNeg) ≤ x4 then some (x3, σ2) else (bd (dc_X10_runs x4 σ2) fun r5 σ6 => (if r5 = 0 then rec1 (x3 + (0 : Int32)) (x4 + 1) σ6 else (bd (dc_X10_of x4 (9 : Int32) σ6) fun r7 σ8 => (if r7 = a1 then rec1 (x3 + (1 : Int32)) (x4 + 1) σ8 else rec1 (x3 + (0 : Int32)) (x4 + 1) σ8))))) else none)) FU (0 : Int32) (0 : Int32) σ
set_option maxRecDepth 20000 in
set_option maxHeartbeats 4000000 in
theorem s_X10_runningWith {G : Gm} {d : Nat} (a1 : Int32) {σ τ : Sto} {r : Int32} (h : dc_X10_runningWith a1 σ = some (r, τ)) : Cl G (d + 2) m_X10_runningWith [.ref (ad G 10 0 0), .int a1] σ (some (.int r)) τ := by
  unfold dc_X10_runningWith at h
  refine Cl.mk (cc := cX10_runningWith) (own := RX10) (nL := 4) (ret := (some .int)) rfl rfl rfl rfl (by decide +kernel) (catA rfl) (Nat.le_of_ble_eq_true rfl) (fun X C => ?_)
  show V X G 0 0 (QE X G (some (.int r)) τ) σ 0 [some (.ref (ad G 10 0 0)), some (.int a1), none, none] []
  refine v_iconst C dX10_runningWith_0 ki_0 ?_
  refine v_istore_n C dX10_runningWith_1 rfl (Nat.le_of_ble_eq_true rfl) (lc1 := [some (.ref (ad G 10 0 0)), some (.int a1), some (.int (0 : Int32)), none]) rfl ?_
  refine v_iconst C dX10_runningWith_2 ki_0 ?_
  refine v_istore_n C dX10_runningWith_3 rfl (Nat.le_of_ble_eq_true rfl) (lc1 := [some (.ref (ad G 10 0 0)), some (.int a1), some (.int (0 : Int32)), some (.int (0 : Int32))]) rfl ?_
  refine v_loop2 (fun x3 x4 σ2 => V X G 0 0 (QE X G (some (.int r)) τ) σ2 4 [some (.ref (ad G 10 0 0)), some (.int a1), some (.int x3), some (.int x4)] []) (fun rec1 hrec1 x3 x4 σ2 h => ?_) h
  refine v_iload_n C dX10_runningWith_4 rfl rfl ?_
  refine v_aload_n C dX10_runningWith_5 rfl rfl ?_
  refine gf_X10_13 C dX10_runningWith_6 ?_
  refine v_iconst C dX10_runningWith_9 ki_2 ?_
  refine ld_19 C dX10_runningWith_10 h (fun h => ?_)
  refine v_icmp_ge C dX10_runningWith_11 (tgt := 47) (by decide) h (fun h => ?_) (fun h => ?_)
  · refine v_iload_n C dX10_runningWith_47 rfl rfl ?_
    exact v_iret C dX10_runningWith_48 h
  · refine v_iload_n C dX10_runningWith_14 rfl rfl ?_
    refine v_aload_n C dX10_runningWith_15 rfl rfl ?_
    refine v_iload_n C dX10_runningWith_16 rfl rfl ?_
    refine cVi C 10 0 0 (av := [.int x4]) si_X10_runs lk_X10_114 (ok10) rfl rfl rfl rfl (st := [.int x3]) rfl (Nat.le_of_ble_eq_true rfl) dX10_runningWith_17 h (fun _ _ hc => s_X10_runs (d := d) x4  hc) (fun r5 σ6 h => ?_)
    refine v_if_eq C dX10_runningWith_20 (tgt := 38) (by decide) h (fun h => ?_) (fun h => ?_)
    · refine v_iconst C dX10_runningWith_38 ki_0 ?_
      refine v_iadd C dX10_runningWith_39 ?_
      refine v_istore_n C dX10_runningWith_40 rfl (Nat.le_of_ble_eq_true rfl) (lc1 := [some (.ref (ad G 10 0 0)), some (.int a1), some (.int (x3 + (0 : Int32))), some (.int x4)]) rfl ?_
      refine v_iinc C dX10_runningWith_41 rfl (kc_1 _) (lc1 := [some (.ref (ad G 10 0 0)), some (.int a1), some (.int (x3 + (0 : Int32))), some (.int (x4 + 1))]) rfl ?_
      refine v_goto C dX10_runningWith_44 (tgt := 4) (by decide) ?_
      refine v_mask [true, true, true, true] (lc' := [some (.ref (ad G 10 0 0)), some (.int a1), some (.int (x3 + (0 : Int32))), some (.int (x4 + 1))]) rfl ?_
      exact hrec1 _ _ _ h
    · refine v_aload_n C dX10_runningWith_23 rfl rfl ?_
      refine v_iload_n C dX10_runningWith_24 rfl rfl ?_
      refine v_bipush C dX10_runningWith_25 kb_9 ?_
      refine cVi C 10 0 0 (av := [.int x4, .int (9 : Int32)]) si_X10_of lk_X10_42 (ok10) rfl rfl rfl rfl (st := [.int x3]) rfl (Nat.le_of_ble_eq_true rfl) dX10_runningWith_27 h (fun _ _ hc => s_X10_of (d := (d + 1)) x4 (9 : Int32)  hc) (fun r7 σ8 h => ?_)
      refine v_iload_n C dX10_runningWith_30 rfl rfl ?_
      refine v_icmp_ne C dX10_runningWith_31 (tgt := 38) (by decide) h (fun h => ?_) (fun h => ?_)
      · refine v_iconst C dX10_runningWith_38 ki_0 ?_
        refine v_iadd C dX10_runningWith_39 ?_
        refine v_istore_n C dX10_runningWith_40 rfl (Nat.le_of_ble_eq_true rfl) (lc1 := [some (.ref (ad G 10 0 0)), some (.int a1), some (.int (x3 + (0 : Int32))), some (.int x4)]) rfl ?_
        refine v_iinc C dX10_runningWith_41 rfl (kc_1 _) (lc1 := [some (.ref (ad G 10 0 0)), some (.int a1), some (.int (x3 + (0 : Int32))), some (.int (x4 + 1))]) rfl ?_
        refine v_goto C dX10_runningWith_44 (tgt := 4) (by decide) ?_
        refine v_mask [true, true, true, true] (lc' := [some (.ref (ad G 10 0 0)), some (.int a1), some (.int (x3 + (0 : Int32))), some (.int (x4 + 1))]) rfl ?_
        exact hrec1 _ _ _ h
      · refine v_iconst C dX10_runningWith_34 ki_1 ?_
        refine v_goto C dX10_runningWith_35 (tgt := 39) (by decide) ?_
        refine v_iadd C dX10_runningWith_39 ?_
        refine v_istore_n C dX10_runningWith_40 rfl (Nat.le_of_ble_eq_true rfl) (lc1 := [some (.ref (ad G 10 0 0)), some (.int a1), some (.int (x3 + (1 : Int32))), some (.int x4)]) rfl ?_
        refine v_iinc C dX10_runningWith_41 rfl (kc_1 _) (lc1 := [some (.ref (ad G 10 0 0)), some (.int a1), some (.int (x3 + (1 : Int32))), some (.int (x4 + 1))]) rfl ?_
        refine v_goto C dX10_runningWith_44 (tgt := 4) (by decide) ?_
        refine v_mask [true, true, true, true] (lc' := [some (.ref (ad G 10 0 0)), some (.int a1), some (.int (x3 + (1 : Int32))), some (.int (x4 + 1))]) rfl ?_
        exact hrec1 _ _ _ h

def dc_X10_servicer (a1 : Int32) (a2 : Int32) (σ : Sto) : Option (Int32 × Sto) :=
  (bd (dc_X10_isServicer a1 (up σ 160 0 0 (0 : Int32))) fun r1 σ2 => (if r1 = 0 then some ((-1 : Int32), σ2) else (bd (dc_X10_in a2 (0 : Int32) (2 : Int32) σ2) fun r3 σ4 => (if r3 = 0 then some ((-2 : Int32), σ4) else (if a2 = 0 then (bd (dc_X10_feeOf a1 σ4) fun r7 σ8 => some (r7, σ8)) else (if a2 = (1 : Int32) then (if inb ((6 : Int32) + a1) 564 then some (σ4.1 304 0 ((6 : Int32) + a1).toNatClampNeg, σ4) else none) else (bd (dc_X10_runningWith a1 σ4) fun r5 σ6 => some (r5, σ6))))))))
set_option maxRecDepth 20000 in
set_option maxHeartbeats 4000000 in
theorem s_X10_servicer {G : Gm} {d : Nat} (a1 : Int32) (a2 : Int32) {σ τ : Sto} {r : Int32} (h : dc_X10_servicer a1 a2 σ = some (r, τ)) : Cl G (d + 3) m_X10_servicer [.ref (ad G 10 0 0), .int a1, .int a2] σ (some (.int r)) τ := by
  unfold dc_X10_servicer at h
  refine Cl.mk (cc := cX10_servicer) (own := RX10) (nL := 3) (ret := (some .int)) rfl rfl rfl rfl (by decide +kernel) (catA rfl) (Nat.le_of_ble_eq_true rfl) (fun X C => ?_)
  show V X G 0 0 (QE X G (some (.int r)) τ) σ 0 [some (.ref (ad G 10 0 0)), some (.int a1), some (.int a2)] []
  refine v_aload_n C dX10_servicer_0 rfl rfl ?_
  refine v_iconst C dX10_servicer_1 ki_0 ?_
  refine pf_X10_1 C dX10_servicer_2 ?_
  refine v_iload_n C dX10_servicer_5 rfl rfl ?_
  refine cSi C (av := [.int a1]) si_X10_isServicer lk_X10_137 rfl rfl (st := []) rfl (Nat.le_of_ble_eq_true rfl) dX10_servicer_6 h (fun _ _ hc => s_X10_isServicer (d := (d + 1)) a1  hc) (fun r1 σ2 h => ?_)
  refine v_if_ne C dX10_servicer_9 (tgt := 14) (by decide) h (fun h => ?_) (fun h => ?_)
  · refine v_iload_n C dX10_servicer_14 rfl rfl ?_
    refine v_iconst C dX10_servicer_15 ki_0 ?_
    refine v_iconst C dX10_servicer_16 ki_2 ?_
    refine cSi C (av := [.int a2, .int (0 : Int32), .int (2 : Int32)]) si_X10_in lk_X10_38 rfl rfl (st := []) rfl (Nat.le_of_ble_eq_true rfl) dX10_servicer_17 h (fun _ _ hc => s_X10_in (d := (d + 2)) a2 (0 : Int32) (2 : Int32)  hc) (fun r3 σ4 h => ?_)
    refine v_if_ne C dX10_servicer_20 (tgt := 28) (by decide) h (fun h => ?_) (fun h => ?_)
    · refine v_iload_n C dX10_servicer_28 rfl rfl ?_
      refine v_if_ne C dX10_servicer_29 (tgt := 39) (by decide) h (fun h => ?_) (fun h => ?_)
      · refine v_iload_n C dX10_servicer_39 rfl rfl ?_
        refine v_iconst C dX10_servicer_40 ki_1 ?_
        refine v_icmp_ne C dX10_servicer_41 (tgt := 56) (by decide) h (fun h => ?_) (fun h => ?_)
        · refine v_aload_n C dX10_servicer_56 rfl rfl ?_
          refine v_iload_n C dX10_servicer_57 rfl rfl ?_
          refine cVi C 10 0 0 (av := [.int a1]) si_X10_runningWith lk_X10_182 (ok10) rfl rfl rfl rfl (st := []) rfl (Nat.le_of_ble_eq_true rfl) dX10_servicer_58 h (fun _ _ hc => s_X10_runningWith (d := d) a1  hc) (fun r5 σ6 h => ?_)
          exact v_iret C dX10_servicer_61 h
        · refine v_aload_n C dX10_servicer_44 rfl rfl ?_
          refine gf_X10_13 C dX10_servicer_45 ?_
          refine v_bipush C dX10_servicer_48 kb_6 ?_
          refine v_iload_n C dX10_servicer_50 rfl rfl ?_
          refine v_iadd C dX10_servicer_51 ?_
          refine ld_19 C dX10_servicer_52 h (fun h => ?_)
          refine v_goto C dX10_servicer_53 (tgt := 61) (by decide) ?_
          exact v_iret C dX10_servicer_61 h
      · refine v_iload_n C dX10_servicer_32 rfl rfl ?_
        refine cSi C (av := [.int a1]) si_X10_feeOf lk_X10_109 rfl rfl (st := []) rfl (Nat.le_of_ble_eq_true rfl) dX10_servicer_33 h (fun _ _ hc => s_X10_feeOf (d := (d + 2)) a1  hc) (fun r7 σ8 h => ?_)
        refine v_goto C dX10_servicer_36 (tgt := 61) (by decide) ?_
        exact v_iret C dX10_servicer_61 h
    · refine v_bipush C dX10_servicer_23 kb_m2 ?_
      refine v_goto C dX10_servicer_25 (tgt := 61) (by decide) ?_
      exact v_iret C dX10_servicer_61 h
  · refine v_iconst C dX10_servicer_12 ki_m1 ?_
    exact v_iret C dX10_servicer_13 h

def dc_X10_inState (a1 : Int32) (σ : Sto) : Option (Int32 × Sto) :=
  wh2 (fun (rec1 : Int32 → Int32 → Sto → Option (Int32 × Sto)) (x3 : Int32) (x4 : Int32) (σ2 : Sto) => (if inb (2 : Int32) 564 then (if (σ2.1 304 0 (2 : Int32).toNatClampNeg) ≤ x4 then some (x3, σ2) else (bd (dc_X10_of x4 (3 : Int32) σ2) fun r5 σ6 => (if r5 = a1 then rec1 (x3 + (1 : Int32)) (x4 + 1) σ6 else rec1 (x3 + (0 : Int32)) (x4 + 1) σ6))) else none)) FU (0 : Int32) (0 : Int32) σ
set_option maxRecDepth 20000 in
set_option maxHeartbeats 4000000 in
theorem s_X10_inState {G : Gm} {d : Nat} (a1 : Int32) {σ τ : Sto} {r : Int32} (h : dc_X10_inState a1 σ = some (r, τ)) : Cl G (d + 1) m_X10_inState [.ref (ad G 10 0 0), .int a1] σ (some (.int r)) τ := by
  unfold dc_X10_inState at h
  refine Cl.mk (cc := cX10_inState) (own := RX10) (nL := 4) (ret := (some .int)) rfl rfl rfl rfl (by decide +kernel) (catA rfl) (Nat.le_of_ble_eq_true rfl) (fun X C => ?_)
  show V X G 0 0 (QE X G (some (.int r)) τ) σ 0 [some (.ref (ad G 10 0 0)), some (.int a1), none, none] []
  refine v_iconst C dX10_inState_0 ki_0 ?_
  refine v_istore_n C dX10_inState_1 rfl (Nat.le_of_ble_eq_true rfl) (lc1 := [some (.ref (ad G 10 0 0)), some (.int a1), some (.int (0 : Int32)), none]) rfl ?_
  refine v_iconst C dX10_inState_2 ki_0 ?_
  refine v_istore_n C dX10_inState_3 rfl (Nat.le_of_ble_eq_true rfl) (lc1 := [some (.ref (ad G 10 0 0)), some (.int a1), some (.int (0 : Int32)), some (.int (0 : Int32))]) rfl ?_
  refine v_loop2 (fun x3 x4 σ2 => V X G 0 0 (QE X G (some (.int r)) τ) σ2 4 [some (.ref (ad G 10 0 0)), some (.int a1), some (.int x3), some (.int x4)] []) (fun rec1 hrec1 x3 x4 σ2 h => ?_) h
  refine v_iload_n C dX10_inState_4 rfl rfl ?_
  refine v_aload_n C dX10_inState_5 rfl rfl ?_
  refine gf_X10_13 C dX10_inState_6 ?_
  refine v_iconst C dX10_inState_9 ki_2 ?_
  refine ld_19 C dX10_inState_10 h (fun h => ?_)
  refine v_icmp_ge C dX10_inState_11 (tgt := 38) (by decide) h (fun h => ?_) (fun h => ?_)
  · refine v_iload_n C dX10_inState_38 rfl rfl ?_
    exact v_iret C dX10_inState_39 h
  · refine v_iload_n C dX10_inState_14 rfl rfl ?_
    refine v_aload_n C dX10_inState_15 rfl rfl ?_
    refine v_iload_n C dX10_inState_16 rfl rfl ?_
    refine v_iconst C dX10_inState_17 ki_3 ?_
    refine cVi C 10 0 0 (av := [.int x4, .int (3 : Int32)]) si_X10_of lk_X10_42 (ok10) rfl rfl rfl rfl (st := [.int x3]) rfl (Nat.le_of_ble_eq_true rfl) dX10_inState_18 h (fun _ _ hc => s_X10_of (d := d) x4 (3 : Int32)  hc) (fun r5 σ6 h => ?_)
    refine v_iload_n C dX10_inState_21 rfl rfl ?_
    refine v_icmp_ne C dX10_inState_22 (tgt := 29) (by decide) h (fun h => ?_) (fun h => ?_)
    · refine v_iconst C dX10_inState_29 ki_0 ?_
      refine v_iadd C dX10_inState_30 ?_
      refine v_istore_n C dX10_inState_31 rfl (Nat.le_of_ble_eq_true rfl) (lc1 := [some (.ref (ad G 10 0 0)), some (.int a1), some (.int (x3 + (0 : Int32))), some (.int x4)]) rfl ?_
      refine v_iinc C dX10_inState_32 rfl (kc_1 _) (lc1 := [some (.ref (ad G 10 0 0)), some (.int a1), some (.int (x3 + (0 : Int32))), some (.int (x4 + 1))]) rfl ?_
      refine v_goto C dX10_inState_35 (tgt := 4) (by decide) ?_
      refine v_mask [true, true, true, true] (lc' := [some (.ref (ad G 10 0 0)), some (.int a1), some (.int (x3 + (0 : Int32))), some (.int (x4 + 1))]) rfl ?_
      exact hrec1 _ _ _ h
    · refine v_iconst C dX10_inState_25 ki_1 ?_
      refine v_goto C dX10_inState_26 (tgt := 30) (by decide) ?_
      refine v_iadd C dX10_inState_30 ?_
      refine v_istore_n C dX10_inState_31 rfl (Nat.le_of_ble_eq_true rfl) (lc1 := [some (.ref (ad G 10 0 0)), some (.int a1), some (.int (x3 + (1 : Int32))), some (.int x4)]) rfl ?_
      refine v_iinc C dX10_inState_32 rfl (kc_1 _) (lc1 := [some (.ref (ad G 10 0 0)), some (.int a1), some (.int (x3 + (1 : Int32))), some (.int (x4 + 1))]) rfl ?_
      refine v_goto C dX10_inState_35 (tgt := 4) (by decide) ?_
      refine v_mask [true, true, true, true] (lc' := [some (.ref (ad G 10 0 0)), some (.int a1), some (.int (x3 + (1 : Int32))), some (.int (x4 + 1))]) rfl ?_
      exact hrec1 _ _ _ h

def dc_X10_sumOf (a1 : Int32) (σ : Sto) : Option (Int32 × Sto) :=
  wh2 (fun (rec1 : Int32 → Int32 → Sto → Option (Int32 × Sto)) (x3 : Int32) (x4 : Int32) (σ2 : Sto) => (if inb (2 : Int32) 564 then (if (σ2.1 304 0 (2 : Int32).toNatClampNeg) ≤ x4 then some (x3, σ2) else (if a1 = (12 : Int32) then (bd (dc_X10_of x4 (6 : Int32) σ2) fun r11 σ12 => rec1 (x3 + r11) (x4 + 1) σ12) else (if a1 = (15 : Int32) then (bd (dc_X10_of x4 (10 : Int32) σ2) fun r9 σ10 => (if r9 = (-5 : Int32) then rec1 (x3 + (0 : Int32)) (x4 + 1) σ10 else rec1 (x3 + (1 : Int32)) (x4 + 1) σ10)) else (bd (dc_X10_runs x4 σ2) fun r5 σ6 => (if r5 = 0 then rec1 (x3 + (0 : Int32)) (x4 + 1) σ6 else (bd (dc_X10_of x4 (4 : Int32) σ6) fun r7 σ8 => rec1 (x3 + r7) (x4 + 1) σ8)))))) else none)) FU (0 : Int32) (0 : Int32) σ
set_option maxRecDepth 20000 in
set_option maxHeartbeats 4000000 in
theorem s_X10_sumOf {G : Gm} {d : Nat} (a1 : Int32) {σ τ : Sto} {r : Int32} (h : dc_X10_sumOf a1 σ = some (r, τ)) : Cl G (d + 2) m_X10_sumOf [.ref (ad G 10 0 0), .int a1] σ (some (.int r)) τ := by
  unfold dc_X10_sumOf at h
  refine Cl.mk (cc := cX10_sumOf) (own := RX10) (nL := 4) (ret := (some .int)) rfl rfl rfl rfl (by decide +kernel) (catA rfl) (Nat.le_of_ble_eq_true rfl) (fun X C => ?_)
  show V X G 0 0 (QE X G (some (.int r)) τ) σ 0 [some (.ref (ad G 10 0 0)), some (.int a1), none, none] []
  refine v_iconst C dX10_sumOf_0 ki_0 ?_
  refine v_istore_n C dX10_sumOf_1 rfl (Nat.le_of_ble_eq_true rfl) (lc1 := [some (.ref (ad G 10 0 0)), some (.int a1), some (.int (0 : Int32)), none]) rfl ?_
  refine v_iconst C dX10_sumOf_2 ki_0 ?_
  refine v_istore_n C dX10_sumOf_3 rfl (Nat.le_of_ble_eq_true rfl) (lc1 := [some (.ref (ad G 10 0 0)), some (.int a1), some (.int (0 : Int32)), some (.int (0 : Int32))]) rfl ?_
  refine v_loop2 (fun x3 x4 σ2 => V X G 0 0 (QE X G (some (.int r)) τ) σ2 4 [some (.ref (ad G 10 0 0)), some (.int a1), some (.int x3), some (.int x4)] []) (fun rec1 hrec1 x3 x4 σ2 h => ?_) h
  refine v_iload_n C dX10_sumOf_4 rfl rfl ?_
  refine v_aload_n C dX10_sumOf_5 rfl rfl ?_
  refine gf_X10_13 C dX10_sumOf_6 ?_
  refine v_iconst C dX10_sumOf_9 ki_2 ?_
  refine ld_19 C dX10_sumOf_10 h (fun h => ?_)
  refine v_icmp_ge C dX10_sumOf_11 (tgt := 83) (by decide) h (fun h => ?_) (fun h => ?_)
  · refine v_iload_n C dX10_sumOf_83 rfl rfl ?_
    exact v_iret C dX10_sumOf_84 h
  · refine v_iload_n C dX10_sumOf_14 rfl rfl ?_
    refine v_iload_n C dX10_sumOf_15 rfl rfl ?_
    refine v_bipush C dX10_sumOf_16 kb_12 ?_
    refine v_icmp_ne C dX10_sumOf_18 (tgt := 31) (by decide) h (fun h => ?_) (fun h => ?_)
    · refine v_iload_n C dX10_sumOf_31 rfl rfl ?_
      refine v_bipush C dX10_sumOf_32 kb_15 ?_
      refine v_icmp_ne C dX10_sumOf_34 (tgt := 57) (by decide) h (fun h => ?_) (fun h => ?_)
      · refine v_aload_n C dX10_sumOf_57 rfl rfl ?_
        refine v_iload_n C dX10_sumOf_58 rfl rfl ?_
        refine cVi C 10 0 0 (av := [.int x4]) si_X10_runs lk_X10_114 (ok10) rfl rfl rfl rfl (st := [.int x3]) rfl (Nat.le_of_ble_eq_true rfl) dX10_sumOf_59 h (fun _ _ hc => s_X10_runs (d := d) x4  hc) (fun r5 σ6 h => ?_)
        refine v_if_eq C dX10_sumOf_62 (tgt := 74) (by decide) h (fun h => ?_) (fun h => ?_)
        · refine v_iconst C dX10_sumOf_74 ki_0 ?_
          refine v_iadd C dX10_sumOf_75 ?_
          refine v_istore_n C dX10_sumOf_76 rfl (Nat.le_of_ble_eq_true rfl) (lc1 := [some (.ref (ad G 10 0 0)), some (.int a1), some (.int (x3 + (0 : Int32))), some (.int x4)]) rfl ?_
          refine v_iinc C dX10_sumOf_77 rfl (kc_1 _) (lc1 := [some (.ref (ad G 10 0 0)), some (.int a1), some (.int (x3 + (0 : Int32))), some (.int (x4 + 1))]) rfl ?_
          refine v_goto C dX10_sumOf_80 (tgt := 4) (by decide) ?_
          refine v_mask [true, true, true, true] (lc' := [some (.ref (ad G 10 0 0)), some (.int a1), some (.int (x3 + (0 : Int32))), some (.int (x4 + 1))]) rfl ?_
          exact hrec1 _ _ _ h
        · refine v_aload_n C dX10_sumOf_65 rfl rfl ?_
          refine v_iload_n C dX10_sumOf_66 rfl rfl ?_
          refine v_iconst C dX10_sumOf_67 ki_4 ?_
          refine cVi C 10 0 0 (av := [.int x4, .int (4 : Int32)]) si_X10_of lk_X10_42 (ok10) rfl rfl rfl rfl (st := [.int x3]) rfl (Nat.le_of_ble_eq_true rfl) dX10_sumOf_68 h (fun _ _ hc => s_X10_of (d := (d + 1)) x4 (4 : Int32)  hc) (fun r7 σ8 h => ?_)
          refine v_goto C dX10_sumOf_71 (tgt := 75) (by decide) ?_
          refine v_iadd C dX10_sumOf_75 ?_
          refine v_istore_n C dX10_sumOf_76 rfl (Nat.le_of_ble_eq_true rfl) (lc1 := [some (.ref (ad G 10 0 0)), some (.int a1), some (.int (x3 + r7)), some (.int x4)]) rfl ?_
          refine v_iinc C dX10_sumOf_77 rfl (kc_1 _) (lc1 := [some (.ref (ad G 10 0 0)), some (.int a1), some (.int (x3 + r7)), some (.int (x4 + 1))]) rfl ?_
          refine v_goto C dX10_sumOf_80 (tgt := 4) (by decide) ?_
          refine v_mask [true, true, true, true] (lc' := [some (.ref (ad G 10 0 0)), some (.int a1), some (.int (x3 + r7)), some (.int (x4 + 1))]) rfl ?_
          exact hrec1 _ _ _ h
      · refine v_aload_n C dX10_sumOf_37 rfl rfl ?_
        refine v_iload_n C dX10_sumOf_38 rfl rfl ?_
        refine v_bipush C dX10_sumOf_39 kb_10 ?_
        refine cVi C 10 0 0 (av := [.int x4, .int (10 : Int32)]) si_X10_of lk_X10_42 (ok10) rfl rfl rfl rfl (st := [.int x3]) rfl (Nat.le_of_ble_eq_true rfl) dX10_sumOf_41 h (fun _ _ hc => s_X10_of (d := (d + 1)) x4 (10 : Int32)  hc) (fun r9 σ10 h => ?_)
        refine v_bipush C dX10_sumOf_44 kb_m5 ?_
        refine v_icmp_ne C dX10_sumOf_46 (tgt := 53) (by decide) h (fun h => ?_) (fun h => ?_)
        · refine v_iconst C dX10_sumOf_53 ki_1 ?_
          refine v_goto C dX10_sumOf_54 (tgt := 75) (by decide) ?_
          refine v_iadd C dX10_sumOf_75 ?_
          refine v_istore_n C dX10_sumOf_76 rfl (Nat.le_of_ble_eq_true rfl) (lc1 := [some (.ref (ad G 10 0 0)), some (.int a1), some (.int (x3 + (1 : Int32))), some (.int x4)]) rfl ?_
          refine v_iinc C dX10_sumOf_77 rfl (kc_1 _) (lc1 := [some (.ref (ad G 10 0 0)), some (.int a1), some (.int (x3 + (1 : Int32))), some (.int (x4 + 1))]) rfl ?_
          refine v_goto C dX10_sumOf_80 (tgt := 4) (by decide) ?_
          refine v_mask [true, true, true, true] (lc' := [some (.ref (ad G 10 0 0)), some (.int a1), some (.int (x3 + (1 : Int32))), some (.int (x4 + 1))]) rfl ?_
          exact hrec1 _ _ _ h
        · refine v_iconst C dX10_sumOf_49 ki_0 ?_
          refine v_goto C dX10_sumOf_50 (tgt := 75) (by decide) ?_
          refine v_iadd C dX10_sumOf_75 ?_
          refine v_istore_n C dX10_sumOf_76 rfl (Nat.le_of_ble_eq_true rfl) (lc1 := [some (.ref (ad G 10 0 0)), some (.int a1), some (.int (x3 + (0 : Int32))), some (.int x4)]) rfl ?_
          refine v_iinc C dX10_sumOf_77 rfl (kc_1 _) (lc1 := [some (.ref (ad G 10 0 0)), some (.int a1), some (.int (x3 + (0 : Int32))), some (.int (x4 + 1))]) rfl ?_
          refine v_goto C dX10_sumOf_80 (tgt := 4) (by decide) ?_
          refine v_mask [true, true, true, true] (lc' := [some (.ref (ad G 10 0 0)), some (.int a1), some (.int (x3 + (0 : Int32))), some (.int (x4 + 1))]) rfl ?_
          exact hrec1 _ _ _ h
    · refine v_aload_n C dX10_sumOf_21 rfl rfl ?_
      refine v_iload_n C dX10_sumOf_22 rfl rfl ?_
      refine v_bipush C dX10_sumOf_23 kb_6 ?_
      refine cVi C 10 0 0 (av := [.int x4, .int (6 : Int32)]) si_X10_of lk_X10_42 (ok10) rfl rfl rfl rfl (st := [.int x3]) rfl (Nat.le_of_ble_eq_true rfl) dX10_sumOf_25 h (fun _ _ hc => s_X10_of (d := (d + 1)) x4 (6 : Int32)  hc) (fun r11 σ12 h => ?_)
      refine v_goto C dX10_sumOf_28 (tgt := 75) (by decide) ?_
      refine v_iadd C dX10_sumOf_75 ?_
      refine v_istore_n C dX10_sumOf_76 rfl (Nat.le_of_ble_eq_true rfl) (lc1 := [some (.ref (ad G 10 0 0)), some (.int a1), some (.int (x3 + r11)), some (.int x4)]) rfl ?_
      refine v_iinc C dX10_sumOf_77 rfl (kc_1 _) (lc1 := [some (.ref (ad G 10 0 0)), some (.int a1), some (.int (x3 + r11)), some (.int (x4 + 1))]) rfl ?_
      refine v_goto C dX10_sumOf_80 (tgt := 4) (by decide) ?_
      refine v_mask [true, true, true, true] (lc' := [some (.ref (ad G 10 0 0)), some (.int a1), some (.int (x3 + r11)), some (.int (x4 + 1))]) rfl ?_
      exact hrec1 _ _ _ h

def dc_X10_losses  (σ : Sto) : Option (Int32 × Sto) :=
  wh2 (fun (rec1 : Int32 → Int32 → Sto → Option (Int32 × Sto)) (x3 : Int32) (x4 : Int32) (σ2 : Sto) => (if inb (3 : Int32) 564 then (if (σ2.1 304 0 (3 : Int32).toNatClampNeg) ≤ x4 then some (x3, σ2) else (bd (dc_X10_ofNote x4 (6 : Int32) σ2) fun r5 σ6 => rec1 (x3 + r5) (x4 + 1) σ6)) else none)) FU (0 : Int32) (0 : Int32) σ
set_option maxRecDepth 20000 in
set_option maxHeartbeats 4000000 in
theorem s_X10_losses {G : Gm} {d : Nat}  {σ τ : Sto} {r : Int32} (h : dc_X10_losses  σ = some (r, τ)) : Cl G (d + 1) m_X10_losses [.ref (ad G 10 0 0)] σ (some (.int r)) τ := by
  unfold dc_X10_losses at h
  refine Cl.mk (cc := cX10_losses) (own := RX10) (nL := 3) (ret := (some .int)) rfl rfl rfl rfl (by decide +kernel) (catA rfl) (Nat.le_of_ble_eq_true rfl) (fun X C => ?_)
  show V X G 0 0 (QE X G (some (.int r)) τ) σ 0 [some (.ref (ad G 10 0 0)), none, none] []
  refine v_iconst C dX10_losses_0 ki_0 ?_
  refine v_istore_n C dX10_losses_1 rfl (Nat.le_of_ble_eq_true rfl) (lc1 := [some (.ref (ad G 10 0 0)), some (.int (0 : Int32)), none]) rfl ?_
  refine v_iconst C dX10_losses_2 ki_0 ?_
  refine v_istore_n C dX10_losses_3 rfl (Nat.le_of_ble_eq_true rfl) (lc1 := [some (.ref (ad G 10 0 0)), some (.int (0 : Int32)), some (.int (0 : Int32))]) rfl ?_
  refine v_loop2 (fun x3 x4 σ2 => V X G 0 0 (QE X G (some (.int r)) τ) σ2 4 [some (.ref (ad G 10 0 0)), some (.int x3), some (.int x4)] []) (fun rec1 hrec1 x3 x4 σ2 h => ?_) h
  refine v_iload_n C dX10_losses_4 rfl rfl ?_
  refine v_aload_n C dX10_losses_5 rfl rfl ?_
  refine gf_X10_13 C dX10_losses_6 ?_
  refine v_iconst C dX10_losses_9 ki_3 ?_
  refine ld_19 C dX10_losses_10 h (fun h => ?_)
  refine v_icmp_ge C dX10_losses_11 (tgt := 30) (by decide) h (fun h => ?_) (fun h => ?_)
  · refine v_iload_n C dX10_losses_30 rfl rfl ?_
    exact v_iret C dX10_losses_31 h
  · refine v_iload_n C dX10_losses_14 rfl rfl ?_
    refine v_aload_n C dX10_losses_15 rfl rfl ?_
    refine v_iload_n C dX10_losses_16 rfl rfl ?_
    refine v_bipush C dX10_losses_17 kb_6 ?_
    refine cVi C 10 0 0 (av := [.int x4, .int (6 : Int32)]) si_X10_ofNote lk_X10_78 (ok10) rfl rfl rfl rfl (st := [.int x3]) rfl (Nat.le_of_ble_eq_true rfl) dX10_losses_19 h (fun _ _ hc => s_X10_ofNote (d := d) x4 (6 : Int32)  hc) (fun r5 σ6 h => ?_)
    refine v_iadd C dX10_losses_22 ?_
    refine v_istore_n C dX10_losses_23 rfl (Nat.le_of_ble_eq_true rfl) (lc1 := [some (.ref (ad G 10 0 0)), some (.int (x3 + r5)), some (.int x4)]) rfl ?_
    refine v_iinc C dX10_losses_24 rfl (kc_1 _) (lc1 := [some (.ref (ad G 10 0 0)), some (.int (x3 + r5)), some (.int (x4 + 1))]) rfl ?_
    refine v_goto C dX10_losses_27 (tgt := 4) (by decide) ?_
    refine v_mask [true, true, true] (lc' := [some (.ref (ad G 10 0 0)), some (.int (x3 + r5)), some (.int (x4 + 1))]) rfl ?_
    exact hrec1 _ _ _ h

def dc_X10_count (a1 : Int32) (σ : Sto) : Option (Int32 × Sto) :=
  (if a1 = (0 : Int32) then (if inb (0 : Int32) 564 then some ((up σ 160 0 0 (0 : Int32)).1 304 0 (0 : Int32).toNatClampNeg, up σ 160 0 0 (0 : Int32)) else none) else (if a1 = (1 : Int32) then (if inb (1 : Int32) 564 then some ((up σ 160 0 0 (0 : Int32)).1 304 0 (1 : Int32).toNatClampNeg, up σ 160 0 0 (0 : Int32)) else none) else (if a1 = (2 : Int32) then (if inb (2 : Int32) 564 then some ((up σ 160 0 0 (0 : Int32)).1 304 0 (2 : Int32).toNatClampNeg, up σ 160 0 0 (0 : Int32)) else none) else (if a1 = (3 : Int32) then (bd (dc_X10_inState (a1 - (3 : Int32)) (up σ 160 0 0 (0 : Int32))) fun r4 σ5 => some (r4, σ5)) else (if a1 = (4 : Int32) then (bd (dc_X10_inState (a1 - (3 : Int32)) (up σ 160 0 0 (0 : Int32))) fun r7 σ8 => some (r7, σ8)) else (if a1 = (5 : Int32) then (bd (dc_X10_inState (a1 - (3 : Int32)) (up σ 160 0 0 (0 : Int32))) fun r10 σ11 => some (r10, σ11)) else (if a1 = (6 : Int32) then (bd (dc_X10_inState (a1 - (3 : Int32)) (up σ 160 0 0 (0 : Int32))) fun r13 σ14 => some (r13, σ14)) else (if a1 = (7 : Int32) then (bd (dc_X10_inState (a1 - (3 : Int32)) (up σ 160 0 0 (0 : Int32))) fun r16 σ17 => some (r16, σ17)) else (if a1 = (8 : Int32) then (if inb (3 : Int32) 564 then some ((up σ 160 0 0 (0 : Int32)).1 304 0 (3 : Int32).toNatClampNeg, up σ 160 0 0 (0 : Int32)) else none) else (if a1 = (9 : Int32) then (if inb (4 : Int32) 564 then some ((up σ 160 0 0 (0 : Int32)).1 304 0 (4 : Int32).toNatClampNeg, up σ 160 0 0 (0 : Int32)) else none) else (if a1 = (10 : Int32) then (if inb (5 : Int32) 564 then some ((up σ 160 0 0 (0 : Int32)).1 304 0 (5 : Int32).toNatClampNeg, up σ 160 0 0 (0 : Int32)) else none) else (if a1 = (11 : Int32) then (bd (dc_X10_sumOf a1 (up σ 160 0 0 (0 : Int32))) fun r22 σ23 => some (r22, σ23)) else (if a1 = (12 : Int32) then (bd (dc_X10_sumOf a1 (up σ 160 0 0 (0 : Int32))) fun r25 σ26 => some (r25, σ26)) else (if a1 = (13 : Int32) then (bd (dc_X10_losses  (up σ 160 0 0 (0 : Int32))) fun r28 σ29 => some (r28, σ29)) else (if a1 = (14 : Int32) then (bd (dc_X10_inArrears  (up σ 160 0 0 (0 : Int32))) fun r31 σ32 => some (r31, σ32)) else (if a1 = (15 : Int32) then (bd (dc_X10_sumOf a1 (up σ 160 0 0 (0 : Int32))) fun r34 σ35 => some (r34, σ35)) else (if a1 = (16 : Int32) then some ((up σ 160 0 0 (0 : Int32)).1 166 0 0, up σ 160 0 0 (0 : Int32)) else (if a1 = (17 : Int32) then some ((up σ 160 0 0 (0 : Int32)).1 168 0 0, up σ 160 0 0 (0 : Int32)) else some ((-2 : Int32), up σ 160 0 0 (0 : Int32))))))))))))))))))))
set_option maxRecDepth 20000 in
set_option maxHeartbeats 4000000 in
theorem s_X10_count {G : Gm} {d : Nat} (a1 : Int32) {σ τ : Sto} {r : Int32} (h : dc_X10_count a1 σ = some (r, τ)) : Cl G (d + 3) m_X10_count [.ref (ad G 10 0 0), .int a1] σ (some (.int r)) τ := by
  unfold dc_X10_count at h
  refine Cl.mk (cc := cX10_count) (own := RX10) (nL := 2) (ret := (some .int)) rfl rfl rfl rfl (by decide +kernel) (catA rfl) (Nat.le_of_ble_eq_true rfl) (fun X C => ?_)
  show V X G 0 0 (QE X G (some (.int r)) τ) σ 0 [some (.ref (ad G 10 0 0)), some (.int a1)] []
  refine v_aload_n C dX10_count_0 rfl rfl ?_
  refine v_iconst C dX10_count_1 ki_0 ?_
  refine pf_X10_1 C dX10_count_2 ?_
  refine v_iload_n C dX10_count_5 rfl rfl ?_
  refine v_tcase h (fun hc1 h => ?_) (fun hc1 h => ?_)
  · refine v_tin C dX10_count_6 (tgt := 92) (by rw [hc1]; decide) (by rw [hc1]; decide) (by rw [hc1]; exact rfl) (by decide) ?_
    refine v_aload_n C dX10_count_92 rfl rfl ?_
    refine gf_X10_13 C dX10_count_93 ?_
    refine v_iconst C dX10_count_96 ki_0 ?_
    refine ld_19 C dX10_count_97 h (fun h => ?_)
    exact v_iret C dX10_count_98 h
  refine v_tcase h (fun hc2 h => ?_) (fun hc2 h => ?_)
  · refine v_tin C dX10_count_6 (tgt := 99) (by rw [hc2]; decide) (by rw [hc2]; decide) (by rw [hc2]; exact rfl) (by decide) ?_
    refine v_aload_n C dX10_count_99 rfl rfl ?_
    refine gf_X10_13 C dX10_count_100 ?_
    refine v_iconst C dX10_count_103 ki_1 ?_
    refine ld_19 C dX10_count_104 h (fun h => ?_)
    exact v_iret C dX10_count_105 h
  refine v_tcase h (fun hc3 h => ?_) (fun hc3 h => ?_)
  · refine v_tin C dX10_count_6 (tgt := 106) (by rw [hc3]; decide) (by rw [hc3]; decide) (by rw [hc3]; exact rfl) (by decide) ?_
    refine v_aload_n C dX10_count_106 rfl rfl ?_
    refine gf_X10_13 C dX10_count_107 ?_
    refine v_iconst C dX10_count_110 ki_2 ?_
    refine ld_19 C dX10_count_111 h (fun h => ?_)
    exact v_iret C dX10_count_112 h
  refine v_tcase h (fun hc6 h => ?_) (fun hc6 h => ?_)
  · refine v_tin C dX10_count_6 (tgt := 113) (by rw [hc6]; decide) (by rw [hc6]; decide) (by rw [hc6]; exact rfl) (by decide) ?_
    refine v_aload_n C dX10_count_113 rfl rfl ?_
    refine v_iload_n C dX10_count_114 rfl rfl ?_
    refine v_iconst C dX10_count_115 ki_3 ?_
    refine v_isub C dX10_count_116 ?_
    refine cVi C 10 0 0 (av := [.int (a1 - (3 : Int32))]) si_X10_inState lk_X10_185 (ok10) rfl rfl rfl rfl (st := []) rfl (Nat.le_of_ble_eq_true rfl) dX10_count_117 h (fun _ _ hc => s_X10_inState (d := (d + 1)) (a1 - (3 : Int32))  hc) (fun r4 σ5 h => ?_)
    exact v_iret C dX10_count_120 h
  refine v_tcase h (fun hc9 h => ?_) (fun hc9 h => ?_)
  · refine v_tin C dX10_count_6 (tgt := 113) (by rw [hc9]; decide) (by rw [hc9]; decide) (by rw [hc9]; exact rfl) (by decide) ?_
    refine v_aload_n C dX10_count_113 rfl rfl ?_
    refine v_iload_n C dX10_count_114 rfl rfl ?_
    refine v_iconst C dX10_count_115 ki_3 ?_
    refine v_isub C dX10_count_116 ?_
    refine cVi C 10 0 0 (av := [.int (a1 - (3 : Int32))]) si_X10_inState lk_X10_185 (ok10) rfl rfl rfl rfl (st := []) rfl (Nat.le_of_ble_eq_true rfl) dX10_count_117 h (fun _ _ hc => s_X10_inState (d := (d + 1)) (a1 - (3 : Int32))  hc) (fun r7 σ8 h => ?_)
    exact v_iret C dX10_count_120 h
  refine v_tcase h (fun hc12 h => ?_) (fun hc12 h => ?_)
  · refine v_tin C dX10_count_6 (tgt := 113) (by rw [hc12]; decide) (by rw [hc12]; decide) (by rw [hc12]; exact rfl) (by decide) ?_
    refine v_aload_n C dX10_count_113 rfl rfl ?_
    refine v_iload_n C dX10_count_114 rfl rfl ?_
    refine v_iconst C dX10_count_115 ki_3 ?_
    refine v_isub C dX10_count_116 ?_
    refine cVi C 10 0 0 (av := [.int (a1 - (3 : Int32))]) si_X10_inState lk_X10_185 (ok10) rfl rfl rfl rfl (st := []) rfl (Nat.le_of_ble_eq_true rfl) dX10_count_117 h (fun _ _ hc => s_X10_inState (d := (d + 1)) (a1 - (3 : Int32))  hc) (fun r10 σ11 h => ?_)
    exact v_iret C dX10_count_120 h
  refine v_tcase h (fun hc15 h => ?_) (fun hc15 h => ?_)
  · refine v_tin C dX10_count_6 (tgt := 113) (by rw [hc15]; decide) (by rw [hc15]; decide) (by rw [hc15]; exact rfl) (by decide) ?_
    refine v_aload_n C dX10_count_113 rfl rfl ?_
    refine v_iload_n C dX10_count_114 rfl rfl ?_
    refine v_iconst C dX10_count_115 ki_3 ?_
    refine v_isub C dX10_count_116 ?_
    refine cVi C 10 0 0 (av := [.int (a1 - (3 : Int32))]) si_X10_inState lk_X10_185 (ok10) rfl rfl rfl rfl (st := []) rfl (Nat.le_of_ble_eq_true rfl) dX10_count_117 h (fun _ _ hc => s_X10_inState (d := (d + 1)) (a1 - (3 : Int32))  hc) (fun r13 σ14 h => ?_)
    exact v_iret C dX10_count_120 h
  refine v_tcase h (fun hc18 h => ?_) (fun hc18 h => ?_)
  · refine v_tin C dX10_count_6 (tgt := 113) (by rw [hc18]; decide) (by rw [hc18]; decide) (by rw [hc18]; exact rfl) (by decide) ?_
    refine v_aload_n C dX10_count_113 rfl rfl ?_
    refine v_iload_n C dX10_count_114 rfl rfl ?_
    refine v_iconst C dX10_count_115 ki_3 ?_
    refine v_isub C dX10_count_116 ?_
    refine cVi C 10 0 0 (av := [.int (a1 - (3 : Int32))]) si_X10_inState lk_X10_185 (ok10) rfl rfl rfl rfl (st := []) rfl (Nat.le_of_ble_eq_true rfl) dX10_count_117 h (fun _ _ hc => s_X10_inState (d := (d + 1)) (a1 - (3 : Int32))  hc) (fun r16 σ17 h => ?_)
    exact v_iret C dX10_count_120 h
  refine v_tcase h (fun hc19 h => ?_) (fun hc19 h => ?_)
  · refine v_tin C dX10_count_6 (tgt := 121) (by rw [hc19]; decide) (by rw [hc19]; decide) (by rw [hc19]; exact rfl) (by decide) ?_
    refine v_aload_n C dX10_count_121 rfl rfl ?_
    refine gf_X10_13 C dX10_count_122 ?_
    refine v_iconst C dX10_count_125 ki_3 ?_
    refine ld_19 C dX10_count_126 h (fun h => ?_)
    exact v_iret C dX10_count_127 h
  refine v_tcase h (fun hc20 h => ?_) (fun hc20 h => ?_)
  · refine v_tin C dX10_count_6 (tgt := 128) (by rw [hc20]; decide) (by rw [hc20]; decide) (by rw [hc20]; exact rfl) (by decide) ?_
    refine v_aload_n C dX10_count_128 rfl rfl ?_
    refine gf_X10_13 C dX10_count_129 ?_
    refine v_iconst C dX10_count_132 ki_4 ?_
    refine ld_19 C dX10_count_133 h (fun h => ?_)
    exact v_iret C dX10_count_134 h
  refine v_tcase h (fun hc21 h => ?_) (fun hc21 h => ?_)
  · refine v_tin C dX10_count_6 (tgt := 135) (by rw [hc21]; decide) (by rw [hc21]; decide) (by rw [hc21]; exact rfl) (by decide) ?_
    refine v_aload_n C dX10_count_135 rfl rfl ?_
    refine gf_X10_13 C dX10_count_136 ?_
    refine v_iconst C dX10_count_139 ki_5 ?_
    refine ld_19 C dX10_count_140 h (fun h => ?_)
    exact v_iret C dX10_count_141 h
  refine v_tcase h (fun hc24 h => ?_) (fun hc24 h => ?_)
  · refine v_tin C dX10_count_6 (tgt := 142) (by rw [hc24]; decide) (by rw [hc24]; decide) (by rw [hc24]; exact rfl) (by decide) ?_
    refine v_aload_n C dX10_count_142 rfl rfl ?_
    refine v_iload_n C dX10_count_143 rfl rfl ?_
    refine cVi C 10 0 0 (av := [.int a1]) si_X10_sumOf lk_X10_188 (ok10) rfl rfl rfl rfl (st := []) rfl (Nat.le_of_ble_eq_true rfl) dX10_count_144 h (fun _ _ hc => s_X10_sumOf (d := d) a1  hc) (fun r22 σ23 h => ?_)
    exact v_iret C dX10_count_147 h
  refine v_tcase h (fun hc27 h => ?_) (fun hc27 h => ?_)
  · refine v_tin C dX10_count_6 (tgt := 142) (by rw [hc27]; decide) (by rw [hc27]; decide) (by rw [hc27]; exact rfl) (by decide) ?_
    refine v_aload_n C dX10_count_142 rfl rfl ?_
    refine v_iload_n C dX10_count_143 rfl rfl ?_
    refine cVi C 10 0 0 (av := [.int a1]) si_X10_sumOf lk_X10_188 (ok10) rfl rfl rfl rfl (st := []) rfl (Nat.le_of_ble_eq_true rfl) dX10_count_144 h (fun _ _ hc => s_X10_sumOf (d := d) a1  hc) (fun r25 σ26 h => ?_)
    exact v_iret C dX10_count_147 h
  refine v_tcase h (fun hc30 h => ?_) (fun hc30 h => ?_)
  · refine v_tin C dX10_count_6 (tgt := 148) (by rw [hc30]; decide) (by rw [hc30]; decide) (by rw [hc30]; exact rfl) (by decide) ?_
    refine v_aload_n C dX10_count_148 rfl rfl ?_
    refine cVi C 10 0 0 (av := []) si_X10_losses lk_X10_191 (ok10) rfl rfl rfl rfl (st := []) rfl (Nat.le_of_ble_eq_true rfl) dX10_count_149 h (fun _ _ hc => s_X10_losses (d := (d + 1))   hc) (fun r28 σ29 h => ?_)
    exact v_iret C dX10_count_152 h
  refine v_tcase h (fun hc33 h => ?_) (fun hc33 h => ?_)
  · refine v_tin C dX10_count_6 (tgt := 153) (by rw [hc33]; decide) (by rw [hc33]; decide) (by rw [hc33]; exact rfl) (by decide) ?_
    refine v_aload_n C dX10_count_153 rfl rfl ?_
    refine cVi C 10 0 0 (av := []) si_X10_inArrears lk_X10_147 (ok10) rfl rfl rfl rfl (st := []) rfl (Nat.le_of_ble_eq_true rfl) dX10_count_154 h (fun _ _ hc => s_X10_inArrears (d := d)   hc) (fun r31 σ32 h => ?_)
    exact v_iret C dX10_count_157 h
  refine v_tcase h (fun hc36 h => ?_) (fun hc36 h => ?_)
  · refine v_tin C dX10_count_6 (tgt := 142) (by rw [hc36]; decide) (by rw [hc36]; decide) (by rw [hc36]; exact rfl) (by decide) ?_
    refine v_aload_n C dX10_count_142 rfl rfl ?_
    refine v_iload_n C dX10_count_143 rfl rfl ?_
    refine cVi C 10 0 0 (av := [.int a1]) si_X10_sumOf lk_X10_188 (ok10) rfl rfl rfl rfl (st := []) rfl (Nat.le_of_ble_eq_true rfl) dX10_count_144 h (fun _ _ hc => s_X10_sumOf (d := d) a1  hc) (fun r34 σ35 h => ?_)
    exact v_iret C dX10_count_147 h
  refine v_tcase h (fun hc37 h => ?_) (fun hc37 h => ?_)
  · refine v_tin C dX10_count_6 (tgt := 158) (by rw [hc37]; decide) (by rw [hc37]; decide) (by rw [hc37]; exact rfl) (by decide) ?_
    refine v_aload_n C dX10_count_158 rfl rfl ?_
    refine gf_X10_53 C dX10_count_159 ?_
    exact v_iret C dX10_count_162 h
  refine v_tcase h (fun hc38 h => ?_) (fun hc38 h => ?_)
  · refine v_tin C dX10_count_6 (tgt := 163) (by rw [hc38]; decide) (by rw [hc38]; decide) (by rw [hc38]; exact rfl) (by decide) ?_
    refine v_aload_n C dX10_count_163 rfl rfl ?_
    refine gf_X10_151 C dX10_count_164 ?_
    exact v_iret C dX10_count_167 h
  have hc1t := tne hc1 (a := 0) (by decide)
  have hc2t := tne hc2 (a := 1) (by decide)
  have hc3t := tne hc3 (a := 2) (by decide)
  have hc6t := tne hc6 (a := 3) (by decide)
  have hc9t := tne hc9 (a := 4) (by decide)
  have hc12t := tne hc12 (a := 5) (by decide)
  have hc15t := tne hc15 (a := 6) (by decide)
  have hc18t := tne hc18 (a := 7) (by decide)
  have hc19t := tne hc19 (a := 8) (by decide)
  have hc20t := tne hc20 (a := 9) (by decide)
  have hc21t := tne hc21 (a := 10) (by decide)
  have hc24t := tne hc24 (a := 11) (by decide)
  have hc27t := tne hc27 (a := 12) (by decide)
  have hc30t := tne hc30 (a := 13) (by decide)
  have hc33t := tne hc33 (a := 14) (by decide)
  have hc36t := tne hc36 (a := 15) (by decide)
  have hc37t := tne hc37 (a := 16) (by decide)
  have hc38t := tne hc38 (a := 17) (by decide)
  refine v_tout C dX10_count_6 (tgt := 168) (by omega) (by decide) ?_
  refine v_bipush C dX10_count_168 kb_m2 ?_
  exact v_iret C dX10_count_170 h
