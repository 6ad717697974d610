/-! by program (wip/whole/walk.py): X10_switchServicer X10_sellNote X10_inArrears X10_month X10_pass X10_type X10_clearText X10_look X10_must X10_digit X10_tell X10_readFundings X10_undo X10_keep X10_restore X10_held -/
def dc_X10_switchServicer (a1 : Int32) (a2 : Int32) (σ : Sto) : Option (Int32 × Sto) :=
  (bv (dc_X10_aside  σ) fun σ2 => (bd (dc_X10_isLoan a1 σ2) fun r3 σ4 => (if r3 = 0 then some ((-1 : Int32), σ4) else (bd (dc_X10_isServicer a2 σ4) fun r5 σ6 => (if r5 = 0 then some ((-1 : Int32), σ6) else (bd (dc_X10_runs a1 σ6) fun r7 σ8 => (if r7 = 0 then some ((-4 : Int32), σ8) else (bd (dc_X10_of a1 (10 : Int32) σ8) fun r9 σ10 => (if r9 = a2 then some ((-5 : Int32), σ10) else (if r9 = (-5 : Int32) then (bd (dc_X10_of a1 (9 : Int32) σ10) fun r17 σ18 => (if r17 = a2 then some ((-5 : Int32), σ18) else (bv (dc_X10_be a1 (10 : Int32) a2 σ18) fun σ20 => (bd (dc_X10_of a1 (9 : Int32) σ20) fun r21 σ22 => (bd (dc_X10_acted r21 σ22) fun r23 σ24 => some (r23, σ24)))))) else (bv (dc_X10_be a1 (10 : Int32) a2 σ10) fun σ12 => (bd (dc_X10_of a1 (9 : Int32) σ12) fun r13 σ14 => (bd (dc_X10_acted r13 σ14) fun r15 σ16 => some (r15, σ16))))))))))))))
set_option maxRecDepth 20000 in
set_option maxHeartbeats 4000000 in
theorem s_X10_switchServicer {G : Gm} {d : Nat} (a1 : Int32) (a2 : Int32) {σ τ : Sto} {r : Int32} (h : dc_X10_switchServicer a1 a2 σ = some (r, τ)) : Cl G (d + 2) m_X10_switchServicer [.ref (ad G 10 0 0), .int a1, .int a2] σ (some (.int r)) τ := by
  unfold dc_X10_switchServicer at h
  refine Cl.mk (cc := cX10_switchServicer) (own := RX10) (nL := 4) (ret := (some .int)) rfl rfl rfl rfl (by decide +kernel) (catA rfl) (Nat.le_of_ble_eq_true rfl) (fun X C => ?_)
  show V X G 0 0 (QE X G (some (.int r)) τ) σ 0 [some (.ref (ad G 10 0 0)), some (.int a1), some (.int a2), none] []
  refine v_aload_n C dX10_switchServicer_0 rfl rfl ?_
  refine cVv C 10 0 0 (av := []) si_X10_aside lk_X10_58 (ok10) rfl rfl rfl rfl (st := []) rfl (Nat.le_of_ble_eq_true rfl) dX10_switchServicer_1 h (fun _ hc => s_X10_aside (d := (d + 1))   hc) (fun σ2 h => ?_)
  refine v_aload_n C dX10_switchServicer_4 rfl rfl ?_
  refine v_iload_n C dX10_switchServicer_5 rfl rfl ?_
  refine cVi C 10 0 0 (av := [.int a1]) si_X10_isLoan lk_X10_84 (ok10) rfl rfl rfl rfl (st := []) rfl (Nat.le_of_ble_eq_true rfl) dX10_switchServicer_6 h (fun _ _ hc => s_X10_isLoan (d := d) a1  hc) (fun r3 σ4 h => ?_)
  refine v_if_eq C dX10_switchServicer_9 (tgt := 19) (by decide) h (fun h => ?_) (fun h => ?_)
  · refine v_iconst C dX10_switchServicer_19 ki_m1 ?_
    exact v_iret C dX10_switchServicer_20 h
  · refine v_iload_n C dX10_switchServicer_12 rfl rfl ?_
    refine cSi C (av := [.int a2]) si_X10_isServicer lk_X10_137 rfl rfl (st := []) rfl (Nat.le_of_ble_eq_true rfl) dX10_switchServicer_13 h (fun _ _ hc => s_X10_isServicer (d := d) a2  hc) (fun r5 σ6 h => ?_)
    refine v_if_ne C dX10_switchServicer_16 (tgt := 21) (by decide) h (fun h => ?_) (fun h => ?_)
    · refine v_aload_n C dX10_switchServicer_21 rfl rfl ?_
      refine v_iload_n C dX10_switchServicer_22 rfl rfl ?_
      refine cVi C 10 0 0 (av := [.int a1]) si_X10_runs lk_X10_114 (ok10) rfl rfl rfl rfl (st := []) rfl (Nat.le_of_ble_eq_true rfl) dX10_switchServicer_23 h (fun _ _ hc => s_X10_runs (d := d) a1  hc) (fun r7 σ8 h => ?_)
      refine v_if_ne C dX10_switchServicer_26 (tgt := 32) (by decide) h (fun h => ?_) (fun h => ?_)
      · refine v_aload_n C dX10_switchServicer_32 rfl rfl ?_
        refine v_iload_n C dX10_switchServicer_33 rfl rfl ?_
        refine v_bipush C dX10_switchServicer_34 kb_10 ?_
        refine cVi C 10 0 0 (av := [.int a1, .int (10 : Int32)]) si_X10_of lk_X10_42 (ok10) rfl rfl rfl rfl (st := []) rfl (Nat.le_of_ble_eq_true rfl) dX10_switchServicer_36 h (fun _ _ hc => s_X10_of (d := (d + 1)) a1 (10 : Int32)  hc) (fun r9 σ10 h => ?_)
        refine v_istore_n C dX10_switchServicer_39 rfl (Nat.le_of_ble_eq_true rfl) (lc1 := [some (.ref (ad G 10 0 0)), some (.int a1), some (.int a2), some (.int r9)]) rfl ?_
        refine v_iload_n C dX10_switchServicer_40 rfl rfl ?_
        refine v_iload_n C dX10_switchServicer_41 rfl rfl ?_
        refine v_icmp_eq C dX10_switchServicer_42 (tgt := 62) (by decide) h (fun h => ?_) (fun h => ?_)
        · refine v_bipush C dX10_switchServicer_62 kb_m5 ?_
          exact v_iret C dX10_switchServicer_64 h
        · refine v_iload_n C dX10_switchServicer_45 rfl rfl ?_
          refine v_bipush C dX10_switchServicer_46 kb_m5 ?_
          refine v_icmp_ne C dX10_switchServicer_48 (tgt := 65) (by decide) h (fun h => ?_) (fun h => ?_)
          · refine v_aload_n C dX10_switchServicer_65 rfl rfl ?_
            refine v_iload_n C dX10_switchServicer_66 rfl rfl ?_
            refine v_bipush C dX10_switchServicer_67 kb_10 ?_
            refine v_iload_n C dX10_switchServicer_69 rfl rfl ?_
            refine cVv C 10 0 0 (av := [.int a1, .int (10 : Int32), .int a2]) si_X10_be lk_X10_74 (ok10) rfl rfl rfl rfl (st := []) rfl (Nat.le_of_ble_eq_true rfl) dX10_switchServicer_70 h (fun _ hc => s_X10_be (d := (d + 1)) a1 (10 : Int32) a2  hc) (fun σ12 h => ?_)
            refine v_aload_n C dX10_switchServicer_73 rfl rfl ?_
            refine v_aload_n C dX10_switchServicer_74 rfl rfl ?_
            refine v_iload_n C dX10_switchServicer_75 rfl rfl ?_
            refine v_bipush C dX10_switchServicer_76 kb_9 ?_
            refine cVi C 10 0 0 (av := [.int a1, .int (9 : Int32)]) si_X10_of lk_X10_42 (ok10) rfl rfl rfl rfl (st := [.ref (ad G 10 0 0)]) rfl (Nat.le_of_ble_eq_true rfl) dX10_switchServicer_78 h (fun _ _ hc => s_X10_of (d := (d + 1)) a1 (9 : Int32)  hc) (fun r13 σ14 h => ?_)
            refine cVi C 10 0 0 (av := [.int r13]) si_X10_acted lk_X10_61 (ok10) rfl rfl rfl rfl (st := []) rfl (Nat.le_of_ble_eq_true rfl) dX10_switchServicer_81 h (fun _ _ hc => s_X10_acted (d := d) r13  hc) (fun r15 σ16 h => ?_)
            exact v_iret C dX10_switchServicer_84 h
          · refine v_aload_n C dX10_switchServicer_51 rfl rfl ?_
            refine v_iload_n C dX10_switchServicer_52 rfl rfl ?_
            refine v_bipush C dX10_switchServicer_53 kb_9 ?_
            refine cVi C 10 0 0 (av := [.int a1, .int (9 : Int32)]) si_X10_of lk_X10_42 (ok10) rfl rfl rfl rfl (st := []) rfl (Nat.le_of_ble_eq_true rfl) dX10_switchServicer_55 h (fun _ _ hc => s_X10_of (d := (d + 1)) a1 (9 : Int32)  hc) (fun r17 σ18 h => ?_)
            refine v_iload_n C dX10_switchServicer_58 rfl rfl ?_
            refine v_icmp_ne C dX10_switchServicer_59 (tgt := 65) (by decide) h (fun h => ?_) (fun h => ?_)
            · refine v_aload_n C dX10_switchServicer_65 rfl rfl ?_
              refine v_iload_n C dX10_switchServicer_66 rfl rfl ?_
              refine v_bipush C dX10_switchServicer_67 kb_10 ?_
              refine v_iload_n C dX10_switchServicer_69 rfl rfl ?_
              refine cVv C 10 0 0 (av := [.int a1, .int (10 : Int32), .int a2]) si_X10_be lk_X10_74 (ok10) rfl rfl rfl rfl (st := []) rfl (Nat.le_of_ble_eq_true rfl) dX10_switchServicer_70 h (fun _ hc => s_X10_be (d := (d + 1)) a1 (10 : Int32) a2  hc) (fun σ20 h => ?_)
              refine v_aload_n C dX10_switchServicer_73 rfl rfl ?_
              refine v_aload_n C dX10_switchServicer_74 rfl rfl ?_
              refine v_iload_n C dX10_switchServicer_75 rfl rfl ?_
              refine v_bipush C dX10_switchServicer_76 kb_9 ?_
              refine cVi C 10 0 0 (av := [.int a1, .int (9 : Int32)]) si_X10_of lk_X10_42 (ok10) rfl rfl rfl rfl (st := [.ref (ad G 10 0 0)]) rfl (Nat.le_of_ble_eq_true rfl) dX10_switchServicer_78 h (fun _ _ hc => s_X10_of (d := (d + 1)) a1 (9 : Int32)  hc) (fun r21 σ22 h => ?_)
              refine cVi C 10 0 0 (av := [.int r21]) si_X10_acted lk_X10_61 (ok10) rfl rfl rfl rfl (st := []) rfl (Nat.le_of_ble_eq_true rfl) dX10_switchServicer_81 h (fun _ _ hc => s_X10_acted (d := d) r21  hc) (fun r23 σ24 h => ?_)
              exact v_iret C dX10_switchServicer_84 h
            · refine v_bipush C dX10_switchServicer_62 kb_m5 ?_
              exact v_iret C dX10_switchServicer_64 h
      · refine v_bipush C dX10_switchServicer_29 kb_m4 ?_
        exact v_iret C dX10_switchServicer_31 h
    · refine v_iconst C dX10_switchServicer_19 ki_m1 ?_
      exact v_iret C dX10_switchServicer_20 h

def dc_X10_sellNote (a1 : Int32) (a2 : Int32) (a3 : Int32) (σ : Sto) : Option (Int32 × Sto) :=
  (bv (dc_X10_aside  σ) fun σ2 => (bd (dc_X10_isNote a1 σ2) fun r3 σ4 => (if r3 = 0 then some ((-1 : Int32), σ4) else (bd (dc_X10_isInvestor a2 σ4) fun r5 σ6 => (if r5 = 0 then some ((-1 : Int32), σ6) else (bd (dc_X10_in a3 (0 : Int32) (99999 : Int32) σ6) fun r7 σ8 => (if r7 = 0 then some ((-2 : Int32), σ8) else (bd (dc_X10_ofNote a1 (0 : Int32) σ8) fun r9 σ10 => (if r9 = a2 then some ((-2 : Int32), σ10) else (bd (dc_X10_ofNote a1 (1 : Int32) σ10) fun r11 σ12 => (bd (dc_X10_runs r11 σ12) fun r13 σ14 => (if r13 = 0 then some ((-4 : Int32), σ14) else (if inb ((10 : Int32) + ((3 : Int32) * a2)) 564 then (if a3 ≤ (σ14.1 304 0 ((10 : Int32) + ((3 : Int32) * a2)).toNatClampNeg) then (bd (dc_X10_ofNote a1 (0 : Int32) σ14) fun r15 σ16 => (bv (dc_X10_payOut r15 a3 σ16) fun σ18 => (if inb ((10 : Int32) + ((3 : Int32) * a2)) 564 then (if inb ((10 : Int32) + ((3 : Int32) * a2)) 564 then (bd (dc_X10_ofNote a1 (0 : Int32) (up σ18 304 0 ((10 : Int32) + ((3 : Int32) * a2)).toNatClampNeg ((σ18.1 304 0 ((10 : Int32) + ((3 : Int32) * a2)).toNatClampNeg) - a3))) fun r19 σ20 => (bv (dc_X10_more a1 (0 : Int32) (a2 - r19) σ20) fun σ22 => (bd (dc_X10_ofNote a1 (3 : Int32) σ22) fun r23 σ24 => (bd (dc_X10_acted r23 σ24) fun r25 σ26 => some (r25, σ26))))) else none) else none))) else some ((-4 : Int32), σ14)) else none)))))))))))))
set_option maxRecDepth 20000 in
set_option maxHeartbeats 4000000 in
theorem s_X10_sellNote {G : Gm} {d : Nat} (a1 : Int32) (a2 : Int32) (a3 : Int32) {σ τ : Sto} {r : Int32} (h : dc_X10_sellNote a1 a2 a3 σ = some (r, τ)) : Cl G (d + 2) m_X10_sellNote [.ref (ad G 10 0 0), .int a1, .int a2, .int a3] σ (some (.int r)) τ := by
  unfold dc_X10_sellNote at h
  refine Cl.mk (cc := cX10_sellNote) (own := RX10) (nL := 4) (ret := (some .int)) rfl rfl rfl rfl (by decide +kernel) (catA rfl) (Nat.le_of_ble_eq_true rfl) (fun X C => ?_)
  show V X G 0 0 (QE X G (some (.int r)) τ) σ 0 [some (.ref (ad G 10 0 0)), some (.int a1), some (.int a2), some (.int a3)] []
  refine v_aload_n C dX10_sellNote_0 rfl rfl ?_
  refine cVv C 10 0 0 (av := []) si_X10_aside lk_X10_58 (ok10) rfl rfl rfl rfl (st := []) rfl (Nat.le_of_ble_eq_true rfl) dX10_sellNote_1 h (fun _ hc => s_X10_aside (d := (d + 1))   hc) (fun σ2 h => ?_)
  refine v_aload_n C dX10_sellNote_4 rfl rfl ?_
  refine v_iload_n C dX10_sellNote_5 rfl rfl ?_
  refine cVi C 10 0 0 (av := [.int a1]) si_X10_isNote lk_X10_140 (ok10) rfl rfl rfl rfl (st := []) rfl (Nat.le_of_ble_eq_true rfl) dX10_sellNote_6 h (fun _ _ hc => s_X10_isNote (d := d) a1  hc) (fun r3 σ4 h => ?_)
  refine v_if_eq C dX10_sellNote_9 (tgt := 20) (by decide) h (fun h => ?_) (fun h => ?_)
  · refine v_iconst C dX10_sellNote_20 ki_m1 ?_
    exact v_iret C dX10_sellNote_21 h
  · refine v_aload_n C dX10_sellNote_12 rfl rfl ?_
    refine v_iload_n C dX10_sellNote_13 rfl rfl ?_
    refine cVi C 10 0 0 (av := [.int a2]) si_X10_isInvestor lk_X10_65 (ok10) rfl rfl rfl rfl (st := []) rfl (Nat.le_of_ble_eq_true rfl) dX10_sellNote_14 h (fun _ _ hc => s_X10_isInvestor (d := d) a2  hc) (fun r5 σ6 h => ?_)
    refine v_if_ne C dX10_sellNote_17 (tgt := 22) (by decide) h (fun h => ?_) (fun h => ?_)
    · refine v_iload_n C dX10_sellNote_22 rfl rfl ?_
      refine v_iconst C dX10_sellNote_23 ki_0 ?_
      refine v_ldc C dX10_sellNote_24 lk_X10_73 ?_
      refine cSi C (av := [.int a3, .int (0 : Int32), .int (99999 : Int32)]) si_X10_in lk_X10_38 rfl rfl (st := []) rfl (Nat.le_of_ble_eq_true rfl) dX10_sellNote_26 h (fun _ _ hc => s_X10_in (d := (d + 1)) a3 (0 : Int32) (99999 : Int32)  hc) (fun r7 σ8 h => ?_)
      refine v_if_eq C dX10_sellNote_29 (tgt := 42) (by decide) h (fun h => ?_) (fun h => ?_)
      · refine v_bipush C dX10_sellNote_42 kb_m2 ?_
        exact v_iret C dX10_sellNote_44 h
      · refine v_aload_n C dX10_sellNote_32 rfl rfl ?_
        refine v_iload_n C dX10_sellNote_33 rfl rfl ?_
        refine v_iconst C dX10_sellNote_34 ki_0 ?_
        refine cVi C 10 0 0 (av := [.int a1, .int (0 : Int32)]) si_X10_ofNote lk_X10_78 (ok10) rfl rfl rfl rfl (st := []) rfl (Nat.le_of_ble_eq_true rfl) dX10_sellNote_35 h (fun _ _ hc => s_X10_ofNote (d := (d + 1)) a1 (0 : Int32)  hc) (fun r9 σ10 h => ?_)
        refine v_iload_n C dX10_sellNote_38 rfl rfl ?_
        refine v_icmp_ne C dX10_sellNote_39 (tgt := 45) (by decide) h (fun h => ?_) (fun h => ?_)
        · refine v_aload_n C dX10_sellNote_45 rfl rfl ?_
          refine v_aload_n C dX10_sellNote_46 rfl rfl ?_
          refine v_iload_n C dX10_sellNote_47 rfl rfl ?_
          refine v_iconst C dX10_sellNote_48 ki_1 ?_
          refine cVi C 10 0 0 (av := [.int a1, .int (1 : Int32)]) si_X10_ofNote lk_X10_78 (ok10) rfl rfl rfl rfl (st := [.ref (ad G 10 0 0)]) rfl (Nat.le_of_ble_eq_true rfl) dX10_sellNote_49 h (fun _ _ hc => s_X10_ofNote (d := (d + 1)) a1 (1 : Int32)  hc) (fun r11 σ12 h => ?_)
          refine cVi C 10 0 0 (av := [.int r11]) si_X10_runs lk_X10_114 (ok10) rfl rfl rfl rfl (st := []) rfl (Nat.le_of_ble_eq_true rfl) dX10_sellNote_52 h (fun _ _ hc => s_X10_runs (d := d) r11  hc) (fun r13 σ14 h => ?_)
          refine v_if_eq C dX10_sellNote_55 (tgt := 73) (by decide) h (fun h => ?_) (fun h => ?_)
          · refine v_bipush C dX10_sellNote_73 kb_m4 ?_
            exact v_iret C dX10_sellNote_75 h
          · refine v_aload_n C dX10_sellNote_58 rfl rfl ?_
            refine gf_X10_13 C dX10_sellNote_59 ?_
            refine v_bipush C dX10_sellNote_62 kb_10 ?_
            refine v_iconst C dX10_sellNote_64 ki_3 ?_
            refine v_iload_n C dX10_sellNote_65 rfl rfl ?_
            refine v_imul C dX10_sellNote_66 ?_
            refine v_iadd C dX10_sellNote_67 ?_
            refine ld_19 C dX10_sellNote_68 h (fun h => ?_)
            refine v_iload_n C dX10_sellNote_69 rfl rfl ?_
            refine v_icmp_ge C dX10_sellNote_70 (tgt := 76) (by decide) h (fun h => ?_) (fun h => ?_)
            · refine v_aload_n C dX10_sellNote_76 rfl rfl ?_
              refine v_aload_n C dX10_sellNote_77 rfl rfl ?_
              refine v_iload_n C dX10_sellNote_78 rfl rfl ?_
              refine v_iconst C dX10_sellNote_79 ki_0 ?_
              refine cVi C 10 0 0 (av := [.int a1, .int (0 : Int32)]) si_X10_ofNote lk_X10_78 (ok10) rfl rfl rfl rfl (st := [.ref (ad G 10 0 0)]) rfl (Nat.le_of_ble_eq_true rfl) dX10_sellNote_80 h (fun _ _ hc => s_X10_ofNote (d := (d + 1)) a1 (0 : Int32)  hc) (fun r15 σ16 h => ?_)
              refine v_iload_n C dX10_sellNote_83 rfl rfl ?_
              refine cVv C 10 0 0 (av := [.int r15, .int a3]) si_X10_payOut lk_X10_69 (ok10) rfl rfl rfl rfl (st := []) rfl (Nat.le_of_ble_eq_true rfl) dX10_sellNote_84 h (fun _ hc => s_X10_payOut (d := (d + 1)) r15 a3  hc) (fun σ18 h => ?_)
              refine v_aload_n C dX10_sellNote_87 rfl rfl ?_
              refine gf_X10_13 C dX10_sellNote_88 ?_
              refine v_bipush C dX10_sellNote_91 kb_10 ?_
              refine v_iconst C dX10_sellNote_93 ki_3 ?_
              refine v_iload_n C dX10_sellNote_94 rfl rfl ?_
              refine v_imul C dX10_sellNote_95 ?_
              refine v_iadd C dX10_sellNote_96 ?_
              refine v_dup2 C dX10_sellNote_97 rfl rfl ?_
              refine ld_19 C dX10_sellNote_98 h (fun h => ?_)
              refine v_iload_n C dX10_sellNote_99 rfl rfl ?_
              refine v_isub C dX10_sellNote_100 ?_
              refine as_19 C dX10_sellNote_101 h (fun h => ?_)
              refine v_aload_n C dX10_sellNote_102 rfl rfl ?_
              refine v_iload_n C dX10_sellNote_103 rfl rfl ?_
              refine v_iconst C dX10_sellNote_104 ki_0 ?_
              refine v_iload_n C dX10_sellNote_105 rfl rfl ?_
              refine v_aload_n C dX10_sellNote_106 rfl rfl ?_
              refine v_iload_n C dX10_sellNote_107 rfl rfl ?_
              refine v_iconst C dX10_sellNote_108 ki_0 ?_
              refine cVi C 10 0 0 (av := [.int a1, .int (0 : Int32)]) si_X10_ofNote lk_X10_78 (ok10) rfl rfl rfl rfl (st := [.int a2, .int (0 : Int32), .int a1, .ref (ad G 10 0 0)]) rfl (Nat.le_of_ble_eq_true rfl) dX10_sellNote_109 h (fun _ _ hc => s_X10_ofNote (d := (d + 1)) a1 (0 : Int32)  hc) (fun r19 σ20 h => ?_)
              refine v_isub C dX10_sellNote_112 ?_
              refine cVv C 10 0 0 (av := [.int a1, .int (0 : Int32), .int (a2 - r19)]) si_X10_more lk_X10_97 (ok10) rfl rfl rfl rfl (st := []) rfl (Nat.le_of_ble_eq_true rfl) dX10_sellNote_113 h (fun _ hc => s_X10_more (d := (d + 1)) a1 (0 : Int32) (a2 - r19)  hc) (fun σ22 h => ?_)
              refine v_aload_n C dX10_sellNote_116 rfl rfl ?_
              refine v_aload_n C dX10_sellNote_117 rfl rfl ?_
              refine v_iload_n C dX10_sellNote_118 rfl rfl ?_
              refine v_iconst C dX10_sellNote_119 ki_3 ?_
              refine cVi C 10 0 0 (av := [.int a1, .int (3 : Int32)]) si_X10_ofNote lk_X10_78 (ok10) rfl rfl rfl rfl (st := [.ref (ad G 10 0 0)]) rfl (Nat.le_of_ble_eq_true rfl) dX10_sellNote_120 h (fun _ _ hc => s_X10_ofNote (d := (d + 1)) a1 (3 : Int32)  hc) (fun r23 σ24 h => ?_)
              refine cVi C 10 0 0 (av := [.int r23]) si_X10_acted lk_X10_61 (ok10) rfl rfl rfl rfl (st := []) rfl (Nat.le_of_ble_eq_true rfl) dX10_sellNote_123 h (fun _ _ hc => s_X10_acted (d := d) r23  hc) (fun r25 σ26 h => ?_)
              exact v_iret C dX10_sellNote_126 h
            · refine v_bipush C dX10_sellNote_73 kb_m4 ?_
              exact v_iret C dX10_sellNote_75 h
        · refine v_bipush C dX10_sellNote_42 kb_m2 ?_
          exact v_iret C dX10_sellNote_44 h
    · refine v_iconst C dX10_sellNote_20 ki_m1 ?_
      exact v_iret C dX10_sellNote_21 h

def dc_X10_inArrears  (σ : Sto) : Option (Int32 × Sto) :=
  wh2 (fun (rec1 : Int32 → Int32 → Sto → Option (Int32 × Sto)) (x3 : Int32) (x4 : Int32) (σ2 : Sto) => (if inb (2 : Int32) 564 then (if (σ2.1 304 0 (2 : Int32).toNatClampNeg) ≤ x4 then some (x3, σ2) else (bd (dc_X10_runs x4 σ2) fun r5 σ6 => (if r5 = 0 then rec1 (x3 + (0 : Int32)) (x4 + 1) σ6 else (bd (dc_X10_of x4 (8 : Int32) σ6) fun r7 σ8 => (if r7 ≤ 0 then rec1 (x3 + (0 : Int32)) (x4 + 1) σ8 else rec1 (x3 + (1 : Int32)) (x4 + 1) σ8))))) else none)) FU (0 : Int32) (0 : Int32) σ
set_option maxRecDepth 20000 in
set_option maxHeartbeats 4000000 in
theorem s_X10_inArrears {G : Gm} {d : Nat}  {σ τ : Sto} {r : Int32} (h : dc_X10_inArrears  σ = some (r, τ)) : Cl G (d + 2) m_X10_inArrears [.ref (ad G 10 0 0)] σ (some (.int r)) τ := by
  unfold dc_X10_inArrears at h
  refine Cl.mk (cc := cX10_inArrears) (own := RX10) (nL := 3) (ret := (some .int)) rfl rfl rfl rfl (by decide +kernel) (catA rfl) (Nat.le_of_ble_eq_true rfl) (fun X C => ?_)
  show V X G 0 0 (QE X G (some (.int r)) τ) σ 0 [some (.ref (ad G 10 0 0)), none, none] []
  refine v_iconst C dX10_inArrears_0 ki_0 ?_
  refine v_istore_n C dX10_inArrears_1 rfl (Nat.le_of_ble_eq_true rfl) (lc1 := [some (.ref (ad G 10 0 0)), some (.int (0 : Int32)), none]) rfl ?_
  refine v_iconst C dX10_inArrears_2 ki_0 ?_
  refine v_istore_n C dX10_inArrears_3 rfl (Nat.le_of_ble_eq_true rfl) (lc1 := [some (.ref (ad G 10 0 0)), some (.int (0 : Int32)), some (.int (0 : Int32))]) rfl ?_
  refine v_loop2 (fun x3 x4 σ2 => V X G 0 0 (QE X G (some (.int r)) τ) σ2 4 [some (.ref (ad G 10 0 0)), some (.int x3), some (.int x4)] []) (fun rec1 hrec1 x3 x4 σ2 h => ?_) h
  refine v_iload_n C dX10_inArrears_4 rfl rfl ?_
  refine v_aload_n C dX10_inArrears_5 rfl rfl ?_
  refine gf_X10_13 C dX10_inArrears_6 ?_
  refine v_iconst C dX10_inArrears_9 ki_2 ?_
  refine ld_19 C dX10_inArrears_10 h (fun h => ?_)
  refine v_icmp_ge C dX10_inArrears_11 (tgt := 46) (by decide) h (fun h => ?_) (fun h => ?_)
  · refine v_iload_n C dX10_inArrears_46 rfl rfl ?_
    exact v_iret C dX10_inArrears_47 h
  · refine v_iload_n C dX10_inArrears_14 rfl rfl ?_
    refine v_aload_n C dX10_inArrears_15 rfl rfl ?_
    refine v_iload_n C dX10_inArrears_16 rfl rfl ?_
    refine cVi C 10 0 0 (av := [.int x4]) si_X10_runs lk_X10_114 (ok10) rfl rfl rfl rfl (st := [.int x3]) rfl (Nat.le_of_ble_eq_true rfl) dX10_inArrears_17 h (fun _ _ hc => s_X10_runs (d := d) x4  hc) (fun r5 σ6 h => ?_)
    refine v_if_eq C dX10_inArrears_20 (tgt := 37) (by decide) h (fun h => ?_) (fun h => ?_)
    · refine v_iconst C dX10_inArrears_37 ki_0 ?_
      refine v_iadd C dX10_inArrears_38 ?_
      refine v_istore_n C dX10_inArrears_39 rfl (Nat.le_of_ble_eq_true rfl) (lc1 := [some (.ref (ad G 10 0 0)), some (.int (x3 + (0 : Int32))), some (.int x4)]) rfl ?_
      refine v_iinc C dX10_inArrears_40 rfl (kc_1 _) (lc1 := [some (.ref (ad G 10 0 0)), some (.int (x3 + (0 : Int32))), some (.int (x4 + 1))]) rfl ?_
      refine v_goto C dX10_inArrears_43 (tgt := 4) (by decide) ?_
      refine v_mask [true, true, true] (lc' := [some (.ref (ad G 10 0 0)), some (.int (x3 + (0 : Int32))), some (.int (x4 + 1))]) rfl ?_
      exact hrec1 _ _ _ h
    · refine v_aload_n C dX10_inArrears_23 rfl rfl ?_
      refine v_iload_n C dX10_inArrears_24 rfl rfl ?_
      refine v_bipush C dX10_inArrears_25 kb_8 ?_
      refine cVi C 10 0 0 (av := [.int x4, .int (8 : Int32)]) si_X10_of lk_X10_42 (ok10) rfl rfl rfl rfl (st := [.int x3]) rfl (Nat.le_of_ble_eq_true rfl) dX10_inArrears_27 h (fun _ _ hc => s_X10_of (d := (d + 1)) x4 (8 : Int32)  hc) (fun r7 σ8 h => ?_)
      refine v_if_le C dX10_inArrears_30 (tgt := 37) (by decide) h (fun h => ?_) (fun h => ?_)
      · refine v_iconst C dX10_inArrears_37 ki_0 ?_
        refine v_iadd C dX10_inArrears_38 ?_
        refine v_istore_n C dX10_inArrears_39 rfl (Nat.le_of_ble_eq_true rfl) (lc1 := [some (.ref (ad G 10 0 0)), some (.int (x3 + (0 : Int32))), some (.int x4)]) rfl ?_
        refine v_iinc C dX10_inArrears_40 rfl (kc_1 _) (lc1 := [some (.ref (ad G 10 0 0)), some (.int (x3 + (0 : Int32))), some (.int (x4 + 1))]) rfl ?_
        refine v_goto C dX10_inArrears_43 (tgt := 4) (by decide) ?_
        refine v_mask [true, true, true] (lc' := [some (.ref (ad G 10 0 0)), some (.int (x3 + (0 : Int32))), some (.int (x4 + 1))]) rfl ?_
        exact hrec1 _ _ _ h
      · refine v_iconst C dX10_inArrears_33 ki_1 ?_
        refine v_goto C dX10_inArrears_34 (tgt := 38) (by decide) ?_
        refine v_iadd C dX10_inArrears_38 ?_
        refine v_istore_n C dX10_inArrears_39 rfl (Nat.le_of_ble_eq_true rfl) (lc1 := [some (.ref (ad G 10 0 0)), some (.int (x3 + (1 : Int32))), some (.int x4)]) rfl ?_
        refine v_iinc C dX10_inArrears_40 rfl (kc_1 _) (lc1 := [some (.ref (ad G 10 0 0)), some (.int (x3 + (1 : Int32))), some (.int (x4 + 1))]) rfl ?_
        refine v_goto C dX10_inArrears_43 (tgt := 4) (by decide) ?_
        refine v_mask [true, true, true] (lc' := [some (.ref (ad G 10 0 0)), some (.int (x3 + (1 : Int32))), some (.int (x4 + 1))]) rfl ?_
        exact hrec1 _ _ _ h

def dc_X10_month (a1 : Int32) (σ : Sto) : Option Sto :=
  (bd (dc_X10_of a1 (10 : Int32) σ) fun r1 σ2 => jn (fun (σ3 : Sto) => (bd (dc_X10_of a1 (6 : Int32) σ3) fun r5 σ6 => (bd (dc_X10_of a1 (7 : Int32) σ6) fun r7 σ8 => jn (fun (v9 : Int32) (σ10 : Sto) => (bv (dc_X10_be a1 (8 : Int32) v9 σ10) fun σ13 => (bd (dc_X10_of a1 (6 : Int32) σ13) fun r14 σ15 => (bd (dc_X10_of a1 (4 : Int32) σ15) fun r16 σ17 => (bd (dc_X10_of a1 (1 : Int32) σ17) fun r18 σ19 => (bv (dc_X10_be a1 (6 : Int32) (r14 + ((r16 * r18) / (1000 : Int32))) σ19) fun σ21 => (bd (dc_X10_of a1 (7 : Int32) σ21) fun r22 σ23 => (bd (dc_X10_of a1 (5 : Int32) σ23) fun r24 σ25 => (bd (dc_X10_of a1 (4 : Int32) σ25) fun r26 σ27 => (if r26 ≤ (r22 + r24) then (bd (dc_X10_of a1 (4 : Int32) σ27) fun r28 σ29 => (bv (dc_X10_be a1 (7 : Int32) r28 σ29) fun σ31 => some σ31)) else (bv (dc_X10_be a1 (7 : Int32) (r22 + r24) σ27) fun σ33 => some σ33))))))))))) (fun k11 => (if (r5 + r7) ≤ 0 then k11 (0 : Int32) σ8 else (bd (dc_X10_of a1 (8 : Int32) σ8) fun r34 σ35 => k11 (r34 + (1 : Int32)) σ35)))))) (fun k4 => (if r1 = (-5 : Int32) then k4 σ2 else (bd (dc_X10_of a1 (10 : Int32) σ2) fun r36 σ37 => (bv (dc_X10_be a1 (9 : Int32) r36 σ37) fun σ39 => (bv (dc_X10_be a1 (10 : Int32) (-5 : Int32) σ39) fun σ41 => k4 σ41))))))
set_option maxRecDepth 20000 in
set_option maxHeartbeats 4000000 in
theorem s_X10_month {G : Gm} {d : Nat} (a1 : Int32) {σ τ : Sto} (h : dc_X10_month a1 σ = some τ) : Cl G (d + 1) m_X10_month [.ref (ad G 10 0 0), .int a1] σ none τ := by
  unfold dc_X10_month at h
  refine Cl.mk (cc := cX10_month) (own := RX10) (nL := 3) (ret := none) rfl rfl rfl rfl (by decide +kernel) (catA rfl) (Nat.le_of_ble_eq_true rfl) (fun X C => ?_)
  show V X G 0 0 (QE X G none τ) σ 0 [some (.ref (ad G 10 0 0)), some (.int a1), none] []
  refine v_aload_n C dX10_month_0 rfl rfl ?_
  refine v_iload_n C dX10_month_1 rfl rfl ?_
  refine v_bipush C dX10_month_2 kb_10 ?_
  refine cVi C 10 0 0 (av := [.int a1, .int (10 : Int32)]) si_X10_of lk_X10_42 (ok10) rfl rfl rfl rfl (st := []) rfl (Nat.le_of_ble_eq_true rfl) dX10_month_4 h (fun _ _ hc => s_X10_of (d := d) a1 (10 : Int32)  hc) (fun r1 σ2 h => ?_)
  refine v_bipush C dX10_month_7 kb_m5 ?_
  refine v_join (fun k => ∀ (σ3 : Sto), k σ3 = some τ → V X G 0 0 (QE X G none τ) σ3 35 [some (.ref (ad G 10 0 0)), some (.int a1), none] []) h (fun σ3 h => ?_) (fun k4 hk4 h => ?_)
  · refine v_aload_n C dX10_month_35 rfl rfl ?_
    refine v_iload_n C dX10_month_36 rfl rfl ?_
    refine v_bipush C dX10_month_37 kb_8 ?_
    refine v_aload_n C dX10_month_39 rfl rfl ?_
    refine v_iload_n C dX10_month_40 rfl rfl ?_
    refine v_bipush C dX10_month_41 kb_6 ?_
    refine cVi C 10 0 0 (av := [.int a1, .int (6 : Int32)]) si_X10_of lk_X10_42 (ok10) rfl rfl rfl rfl (st := [.int (8 : Int32), .int a1, .ref (ad G 10 0 0)]) rfl (Nat.le_of_ble_eq_true rfl) dX10_month_43 h (fun _ _ hc => s_X10_of (d := d) a1 (6 : Int32)  hc) (fun r5 σ6 h => ?_)
    refine v_aload_n C dX10_month_46 rfl rfl ?_
    refine v_iload_n C dX10_month_47 rfl rfl ?_
    refine v_bipush C dX10_month_48 kb_7 ?_
    refine cVi C 10 0 0 (av := [.int a1, .int (7 : Int32)]) si_X10_of lk_X10_42 (ok10) rfl rfl rfl rfl (st := [.int r5, .int (8 : Int32), .int a1, .ref (ad G 10 0 0)]) rfl (Nat.le_of_ble_eq_true rfl) dX10_month_50 h (fun _ _ hc => s_X10_of (d := d) a1 (7 : Int32)  hc) (fun r7 σ8 h => ?_)
    refine v_iadd C dX10_month_53 ?_
    refine v_join (fun k => ∀ (v9 : Int32) (σ10 : Sto), k v9 σ10 = some τ → V X G 0 0 (QE X G none τ) σ10 70 [some (.ref (ad G 10 0 0)), some (.int a1), none] [.int v9, .int (8 : Int32), .int a1, .ref (ad G 10 0 0)]) h (fun v9 σ10 h => ?_) (fun k11 hk11 h => ?_)
    · refine cVv C 10 0 0 (av := [.int a1, .int (8 : Int32), .int v9]) si_X10_be lk_X10_74 (ok10) rfl rfl rfl rfl (st := []) rfl (Nat.le_of_ble_eq_true rfl) dX10_month_70 h (fun _ hc => s_X10_be (d := d) a1 (8 : Int32) v9  hc) (fun σ13 h => ?_)
      refine v_aload_n C dX10_month_73 rfl rfl ?_
      refine v_iload_n C dX10_month_74 rfl rfl ?_
      refine v_bipush C dX10_month_75 kb_6 ?_
      refine v_aload_n C dX10_month_77 rfl rfl ?_
      refine v_iload_n C dX10_month_78 rfl rfl ?_
      refine v_bipush C dX10_month_79 kb_6 ?_
      refine cVi C 10 0 0 (av := [.int a1, .int (6 : Int32)]) si_X10_of lk_X10_42 (ok10) rfl rfl rfl rfl (st := [.int (6 : Int32), .int a1, .ref (ad G 10 0 0)]) rfl (Nat.le_of_ble_eq_true rfl) dX10_month_81 h (fun _ _ hc => s_X10_of (d := d) a1 (6 : Int32)  hc) (fun r14 σ15 h => ?_)
      refine v_aload_n C dX10_month_84 rfl rfl ?_
      refine v_iload_n C dX10_month_85 rfl rfl ?_
      refine v_iconst C dX10_month_86 ki_4 ?_
      refine cVi C 10 0 0 (av := [.int a1, .int (4 : Int32)]) si_X10_of lk_X10_42 (ok10) rfl rfl rfl rfl (st := [.int r14, .int (6 : Int32), .int a1, .ref (ad G 10 0 0)]) rfl (Nat.le_of_ble_eq_true rfl) dX10_month_87 h (fun _ _ hc => s_X10_of (d := d) a1 (4 : Int32)  hc) (fun r16 σ17 h => ?_)
      refine v_aload_n C dX10_month_90 rfl rfl ?_
      refine v_iload_n C dX10_month_91 rfl rfl ?_
      refine v_iconst C dX10_month_92 ki_1 ?_
      refine cVi C 10 0 0 (av := [.int a1, .int (1 : Int32)]) si_X10_of lk_X10_42 (ok10) rfl rfl rfl rfl (st := [.int r16, .int r14, .int (6 : Int32), .int a1, .ref (ad G 10 0 0)]) rfl (Nat.le_of_ble_eq_true rfl) dX10_month_93 h (fun _ _ hc => s_X10_of (d := d) a1 (1 : Int32)  hc) (fun r18 σ19 h => ?_)
      refine v_imul C dX10_month_96 ?_
      refine v_sipush C dX10_month_97 ks_1000 ?_
      refine v_idiv C dX10_month_100 (by decide) ?_
      refine v_iadd C dX10_month_101 ?_
      refine cVv C 10 0 0 (av := [.int a1, .int (6 : Int32), .int (r14 + ((r16 * r18) / (1000 : Int32)))]) si_X10_be lk_X10_74 (ok10) rfl rfl rfl rfl (st := []) rfl (Nat.le_of_ble_eq_true rfl) dX10_month_102 h (fun _ hc => s_X10_be (d := d) a1 (6 : Int32) (r14 + ((r16 * r18) / (1000 : Int32)))  hc) (fun σ21 h => ?_)
      refine v_aload_n C dX10_month_105 rfl rfl ?_
      refine v_iload_n C dX10_month_106 rfl rfl ?_
      refine v_bipush C dX10_month_107 kb_7 ?_
      refine cVi C 10 0 0 (av := [.int a1, .int (7 : Int32)]) si_X10_of lk_X10_42 (ok10) rfl rfl rfl rfl (st := []) rfl (Nat.le_of_ble_eq_true rfl) dX10_month_109 h (fun _ _ hc => s_X10_of (d := d) a1 (7 : Int32)  hc) (fun r22 σ23 h => ?_)
      refine v_aload_n C dX10_month_112 rfl rfl ?_
      refine v_iload_n C dX10_month_113 rfl rfl ?_
      refine v_iconst C dX10_month_114 ki_5 ?_
      refine cVi C 10 0 0 (av := [.int a1, .int (5 : Int32)]) si_X10_of lk_X10_42 (ok10) rfl rfl rfl rfl (st := [.int r22]) rfl (Nat.le_of_ble_eq_true rfl) dX10_month_115 h (fun _ _ hc => s_X10_of (d := d) a1 (5 : Int32)  hc) (fun r24 σ25 h => ?_)
      refine v_iadd C dX10_month_118 ?_
      refine v_istore_n C dX10_month_119 rfl (Nat.le_of_ble_eq_true rfl) (lc1 := [some (.ref (ad G 10 0 0)), some (.int a1), some (.int (r22 + r24))]) rfl ?_
      refine v_aload_n C dX10_month_120 rfl rfl ?_
      refine v_iload_n C dX10_month_121 rfl rfl ?_
      refine v_bipush C dX10_month_122 kb_7 ?_
      refine v_iload_n C dX10_month_124 rfl rfl ?_
      refine v_aload_n C dX10_month_125 rfl rfl ?_
      refine v_iload_n C dX10_month_126 rfl rfl ?_
      refine v_iconst C dX10_month_127 ki_4 ?_
      refine cVi C 10 0 0 (av := [.int a1, .int (4 : Int32)]) si_X10_of lk_X10_42 (ok10) rfl rfl rfl rfl (st := [.int (r22 + r24), .int (7 : Int32), .int a1, .ref (ad G 10 0 0)]) rfl (Nat.le_of_ble_eq_true rfl) dX10_month_128 h (fun _ _ hc => s_X10_of (d := d) a1 (4 : Int32)  hc) (fun r26 σ27 h => ?_)
      refine v_icmp_ge C dX10_month_131 (tgt := 138) (by decide) h (fun h => ?_) (fun h => ?_)
      · refine v_aload_n C dX10_month_138 rfl rfl ?_
        refine v_iload_n C dX10_month_139 rfl rfl ?_
        refine v_iconst C dX10_month_140 ki_4 ?_
        refine cVi C 10 0 0 (av := [.int a1, .int (4 : Int32)]) si_X10_of lk_X10_42 (ok10) rfl rfl rfl rfl (st := [.int (7 : Int32), .int a1, .ref (ad G 10 0 0)]) rfl (Nat.le_of_ble_eq_true rfl) dX10_month_141 h (fun _ _ hc => s_X10_of (d := d) a1 (4 : Int32)  hc) (fun r28 σ29 h => ?_)
        refine cVv C 10 0 0 (av := [.int a1, .int (7 : Int32), .int r28]) si_X10_be lk_X10_74 (ok10) rfl rfl rfl rfl (st := []) rfl (Nat.le_of_ble_eq_true rfl) dX10_month_144 h (fun _ hc => s_X10_be (d := d) a1 (7 : Int32) r28  hc) (fun σ31 h => ?_)
        exact v_vret C dX10_month_147 h
      · refine v_iload_n C dX10_month_134 rfl rfl ?_
        refine v_goto C dX10_month_135 (tgt := 144) (by decide) ?_
        refine cVv C 10 0 0 (av := [.int a1, .int (7 : Int32), .int (r22 + r24)]) si_X10_be lk_X10_74 (ok10) rfl rfl rfl rfl (st := []) rfl (Nat.le_of_ble_eq_true rfl) dX10_month_144 h (fun _ hc => s_X10_be (d := d) a1 (7 : Int32) (r22 + r24)  hc) (fun σ33 h => ?_)
        exact v_vret C dX10_month_147 h
    · refine v_if_le C dX10_month_54 (tgt := 69) (by decide) h (fun h => ?_) (fun h => ?_)
      · refine v_iconst C dX10_month_69 ki_0 ?_
        refine v_mask [true, true, false] (lc' := [some (.ref (ad G 10 0 0)), some (.int a1), none]) rfl ?_
        exact hk11 _ _ h
      · refine v_aload_n C dX10_month_57 rfl rfl ?_
        refine v_iload_n C dX10_month_58 rfl rfl ?_
        refine v_bipush C dX10_month_59 kb_8 ?_
        refine cVi C 10 0 0 (av := [.int a1, .int (8 : Int32)]) si_X10_of lk_X10_42 (ok10) rfl rfl rfl rfl (st := [.int (8 : Int32), .int a1, .ref (ad G 10 0 0)]) rfl (Nat.le_of_ble_eq_true rfl) dX10_month_61 h (fun _ _ hc => s_X10_of (d := d) a1 (8 : Int32)  hc) (fun r34 σ35 h => ?_)
        refine v_iconst C dX10_month_64 ki_1 ?_
        refine v_iadd C dX10_month_65 ?_
        refine v_goto C dX10_month_66 (tgt := 70) (by decide) ?_
        refine v_mask [true, true, false] (lc' := [some (.ref (ad G 10 0 0)), some (.int a1), none]) rfl ?_
        exact hk11 _ _ h
  · refine v_icmp_eq C dX10_month_9 (tgt := 35) (by decide) h (fun h => ?_) (fun h => ?_)
    · refine v_mask [true, true, false] (lc' := [some (.ref (ad G 10 0 0)), some (.int a1), none]) rfl ?_
      exact hk4 _ h
    · refine v_aload_n C dX10_month_12 rfl rfl ?_
      refine v_iload_n C dX10_month_13 rfl rfl ?_
      refine v_bipush C dX10_month_14 kb_9 ?_
      refine v_aload_n C dX10_month_16 rfl rfl ?_
      refine v_iload_n C dX10_month_17 rfl rfl ?_
      refine v_bipush C dX10_month_18 kb_10 ?_
      refine cVi C 10 0 0 (av := [.int a1, .int (10 : Int32)]) si_X10_of lk_X10_42 (ok10) rfl rfl rfl rfl (st := [.int (9 : Int32), .int a1, .ref (ad G 10 0 0)]) rfl (Nat.le_of_ble_eq_true rfl) dX10_month_20 h (fun _ _ hc => s_X10_of (d := d) a1 (10 : Int32)  hc) (fun r36 σ37 h => ?_)
      refine cVv C 10 0 0 (av := [.int a1, .int (9 : Int32), .int r36]) si_X10_be lk_X10_74 (ok10) rfl rfl rfl rfl (st := []) rfl (Nat.le_of_ble_eq_true rfl) dX10_month_23 h (fun _ hc => s_X10_be (d := d) a1 (9 : Int32) r36  hc) (fun σ39 h => ?_)
      refine v_aload_n C dX10_month_26 rfl rfl ?_
      refine v_iload_n C dX10_month_27 rfl rfl ?_
      refine v_bipush C dX10_month_28 kb_10 ?_
      refine v_bipush C dX10_month_30 kb_m5 ?_
      refine cVv C 10 0 0 (av := [.int a1, .int (10 : Int32), .int (-5 : Int32)]) si_X10_be lk_X10_74 (ok10) rfl rfl rfl rfl (st := []) rfl (Nat.le_of_ble_eq_true rfl) dX10_month_32 h (fun _ hc => s_X10_be (d := d) a1 (10 : Int32) (-5 : Int32)  hc) (fun σ41 h => ?_)
      refine v_mask [true, true, false] (lc' := [some (.ref (ad G 10 0 0)), some (.int a1), none]) rfl ?_
      exact hk4 _ h

def dc_X10_pass (a1 : Int32) (σ : Sto) : Option (Int32 × Sto) :=
  (bv (dc_X10_aside  σ) fun σ2 => (bd (dc_X10_in a1 (1 : Int32) (24 : Int32) σ2) fun r3 σ4 => (if r3 = 0 then some ((-2 : Int32), σ4) else (if inb (0 : Int32) 564 then (if ((σ4.1 304 0 (0 : Int32).toNatClampNeg) + a1) ≤ (240 : Int32) then wh1 (fun (rec5 : Int32 → Sto → Option (Int32 × Sto)) (x7 : Int32) (σ6 : Sto) => (if a1 ≤ x7 then (if inb (0 : Int32) 564 then (if inb (0 : Int32) 564 then (bd (dc_X10_inArrears  (up σ6 304 0 (0 : Int32).toNatClampNeg ((σ6.1 304 0 (0 : Int32).toNatClampNeg) + a1))) fun r8 σ9 => (bd (dc_X10_acted r8 σ9) fun r10 σ11 => some (r10, σ11))) else none) else none) else wh1 (fun (rec12 : Int32 → Sto → Option (Int32 × Sto)) (x14 : Int32) (σ13 : Sto) => (if inb (2 : Int32) 564 then (if (σ13.1 304 0 (2 : Int32).toNatClampNeg) ≤ x14 then rec5 (x7 + 1) σ13 else (bd (dc_X10_runs x14 σ13) fun r15 σ16 => (if r15 = 0 then rec12 (x14 + 1) σ16 else (bv (dc_X10_month x14 σ16) fun σ18 => rec12 (x14 + 1) σ18)))) else none)) FU (0 : Int32) σ6)) FU (0 : Int32) σ4 else some ((-4 : Int32), σ4)) else none))))
set_option maxRecDepth 20000 in
set_option maxHeartbeats 4000000 in
theorem s_X10_pass {G : Gm} {d : Nat} (a1 : Int32) {σ τ : Sto} {r : Int32} (h : dc_X10_pass a1 σ = some (r, τ)) : Cl G (d + 3) m_X10_pass [.ref (ad G 10 0 0), .int a1] σ (some (.int r)) τ := by
  unfold dc_X10_pass at h
  refine Cl.mk (cc := cX10_pass) (own := RX10) (nL := 4) (ret := (some .int)) rfl rfl rfl rfl (by decide +kernel) (catA rfl) (Nat.le_of_ble_eq_true rfl) (fun X C => ?_)
  show V X G 0 0 (QE X G (some (.int r)) τ) σ 0 [some (.ref (ad G 10 0 0)), some (.int a1), none, none] []
  refine v_aload_n C dX10_pass_0 rfl rfl ?_
  refine cVv C 10 0 0 (av := []) si_X10_aside lk_X10_58 (ok10) rfl rfl rfl rfl (st := []) rfl (Nat.le_of_ble_eq_true rfl) dX10_pass_1 h (fun _ hc => s_X10_aside (d := (d + 2))   hc) (fun σ2 h => ?_)
  refine v_iload_n C dX10_pass_4 rfl rfl ?_
  refine v_iconst C dX10_pass_5 ki_1 ?_
  refine v_bipush C dX10_pass_6 kb_24 ?_
  refine cSi C (av := [.int a1, .int (1 : Int32), .int (24 : Int32)]) si_X10_in lk_X10_38 rfl rfl (st := []) rfl (Nat.le_of_ble_eq_true rfl) dX10_pass_8 h (fun _ _ hc => s_X10_in (d := (d + 2)) a1 (1 : Int32) (24 : Int32)  hc) (fun r3 σ4 h => ?_)
  refine v_if_ne C dX10_pass_11 (tgt := 17) (by decide) h (fun h => ?_) (fun h => ?_)
  · refine v_aload_n C dX10_pass_17 rfl rfl ?_
    refine gf_X10_13 C dX10_pass_18 ?_
    refine v_iconst C dX10_pass_21 ki_0 ?_
    refine ld_19 C dX10_pass_22 h (fun h => ?_)
    refine v_iload_n C dX10_pass_23 rfl rfl ?_
    refine v_iadd C dX10_pass_24 ?_
    refine v_sipush C dX10_pass_25 ks_240 ?_
    refine v_icmp_le C dX10_pass_28 (tgt := 34) (by decide) h (fun h => ?_) (fun h => ?_)
    · refine v_iconst C dX10_pass_34 ki_0 ?_
      refine v_istore_n C dX10_pass_35 rfl (Nat.le_of_ble_eq_true rfl) (lc1 := [some (.ref (ad G 10 0 0)), some (.int a1), some (.int (0 : Int32)), none]) rfl ?_
      refine v_loop1 (fun x7 σ6 => V X G 0 0 (QE X G (some (.int r)) τ) σ6 36 [some (.ref (ad G 10 0 0)), some (.int a1), some (.int x7), none] []) (fun rec5 hrec5 x7 σ6 h => ?_) h
      refine v_iload_n C dX10_pass_36 rfl rfl ?_
      refine v_iload_n C dX10_pass_37 rfl rfl ?_
      refine v_icmp_ge C dX10_pass_38 (tgt := 78) (by decide) h (fun h => ?_) (fun h => ?_)
      · refine v_aload_n C dX10_pass_78 rfl rfl ?_
        refine gf_X10_13 C dX10_pass_79 ?_
        refine v_iconst C dX10_pass_82 ki_0 ?_
        refine v_dup2 C dX10_pass_83 rfl rfl ?_
        refine ld_19 C dX10_pass_84 h (fun h => ?_)
        refine v_iload_n C dX10_pass_85 rfl rfl ?_
        refine v_iadd C dX10_pass_86 ?_
        refine as_19 C dX10_pass_87 h (fun h => ?_)
        refine v_aload_n C dX10_pass_88 rfl rfl ?_
        refine v_aload_n C dX10_pass_89 rfl rfl ?_
        refine cVi C 10 0 0 (av := []) si_X10_inArrears lk_X10_147 (ok10) rfl rfl rfl rfl (st := [.ref (ad G 10 0 0)]) rfl (Nat.le_of_ble_eq_true rfl) dX10_pass_90 h (fun _ _ hc => s_X10_inArrears (d := d)   hc) (fun r8 σ9 h => ?_)
        refine cVi C 10 0 0 (av := [.int r8]) si_X10_acted lk_X10_61 (ok10) rfl rfl rfl rfl (st := []) rfl (Nat.le_of_ble_eq_true rfl) dX10_pass_93 h (fun _ _ hc => s_X10_acted (d := (d + 1)) r8  hc) (fun r10 σ11 h => ?_)
        exact v_iret C dX10_pass_96 h
      · refine v_iconst C dX10_pass_41 ki_0 ?_
        refine v_istore_n C dX10_pass_42 rfl (Nat.le_of_ble_eq_true rfl) (lc1 := [some (.ref (ad G 10 0 0)), some (.int a1), some (.int x7), some (.int (0 : Int32))]) rfl ?_
        refine v_loop1 (fun x14 σ13 => V X G 0 0 (QE X G (some (.int r)) τ) σ13 43 [some (.ref (ad G 10 0 0)), some (.int a1), some (.int x7), some (.int x14)] []) (fun rec12 hrec12 x14 σ13 h => ?_) h
        refine v_iload_n C dX10_pass_43 rfl rfl ?_
        refine v_aload_n C dX10_pass_44 rfl rfl ?_
        refine gf_X10_13 C dX10_pass_45 ?_
        refine v_iconst C dX10_pass_48 ki_2 ?_
        refine ld_19 C dX10_pass_49 h (fun h => ?_)
        refine v_icmp_ge C dX10_pass_50 (tgt := 72) (by decide) h (fun h => ?_) (fun h => ?_)
        · refine v_iinc C dX10_pass_72 rfl (kc_1 _) (lc1 := [some (.ref (ad G 10 0 0)), some (.int a1), some (.int (x7 + 1)), some (.int x14)]) rfl ?_
          refine v_goto C dX10_pass_75 (tgt := 36) (by decide) ?_
          refine v_mask [true, true, true, false] (lc' := [some (.ref (ad G 10 0 0)), some (.int a1), some (.int (x7 + 1)), none]) rfl ?_
          exact hrec5 _ _ h
        · refine v_aload_n C dX10_pass_53 rfl rfl ?_
          refine v_iload_n C dX10_pass_54 rfl rfl ?_
          refine cVi C 10 0 0 (av := [.int x14]) si_X10_runs lk_X10_114 (ok10) rfl rfl rfl rfl (st := []) rfl (Nat.le_of_ble_eq_true rfl) dX10_pass_55 h (fun _ _ hc => s_X10_runs (d := (d + 1)) x14  hc) (fun r15 σ16 h => ?_)
          refine v_if_eq C dX10_pass_58 (tgt := 66) (by decide) h (fun h => ?_) (fun h => ?_)
          · refine v_iinc C dX10_pass_66 rfl (kc_1 _) (lc1 := [some (.ref (ad G 10 0 0)), some (.int a1), some (.int x7), some (.int (x14 + 1))]) rfl ?_
            refine v_goto C dX10_pass_69 (tgt := 43) (by decide) ?_
            refine v_mask [true, true, true, true] (lc' := [some (.ref (ad G 10 0 0)), some (.int a1), some (.int x7), some (.int (x14 + 1))]) rfl ?_
            exact hrec12 _ _ h
          · refine v_aload_n C dX10_pass_61 rfl rfl ?_
            refine v_iload_n C dX10_pass_62 rfl rfl ?_
            refine cVv C 10 0 0 (av := [.int x14]) si_X10_month lk_X10_143 (ok10) rfl rfl rfl rfl (st := []) rfl (Nat.le_of_ble_eq_true rfl) dX10_pass_63 h (fun _ hc => s_X10_month (d := (d + 1)) x14  hc) (fun σ18 h => ?_)
            refine v_iinc C dX10_pass_66 rfl (kc_1 _) (lc1 := [some (.ref (ad G 10 0 0)), some (.int a1), some (.int x7), some (.int (x14 + 1))]) rfl ?_
            refine v_goto C dX10_pass_69 (tgt := 43) (by decide) ?_
            refine v_mask [true, true, true, true] (lc' := [some (.ref (ad G 10 0 0)), some (.int a1), some (.int x7), some (.int (x14 + 1))]) rfl ?_
            exact hrec12 _ _ h
    · refine v_bipush C dX10_pass_31 kb_m4 ?_
      exact v_iret C dX10_pass_33 h
  · refine v_bipush C dX10_pass_14 kb_m2 ?_
    exact v_iret C dX10_pass_16 h

def dc_X10_type (a1 : Int32) (σ : Sto) : Option (Int32 × Sto) :=
  (if ((up σ 160 0 0 (0 : Int32)).1 168 0 0) = (60 : Int32) then some ((-3 : Int32), up σ 160 0 0 (0 : Int32)) else (if inb ((up σ 160 0 0 (0 : Int32)).1 168 0 0) 60 then (lt (up (up σ 160 0 0 (0 : Int32)) 368 0 ((up σ 160 0 0 (0 : Int32)).1 168 0 0).toNatClampNeg a1) fun σ1 => some ((up σ1 168 0 0 ((σ1.1 168 0 0) + (1 : Int32))).1 168 0 0, up σ1 168 0 0 ((σ1.1 168 0 0) + (1 : Int32)))) else none))
set_option maxRecDepth 20000 in
set_option maxHeartbeats 4000000 in
theorem s_X10_type {G : Gm} {d : Nat} (a1 : Int32) {σ τ : Sto} {r : Int32} (h : dc_X10_type a1 σ = some (r, τ)) : Cl G d m_X10_type [.ref (ad G 10 0 0), .int a1] σ (some (.int r)) τ := by
  unfold dc_X10_type at h
  refine Cl.mk (cc := cX10_type) (own := RX10) (nL := 2) (ret := (some .int)) rfl rfl rfl rfl (by decide +kernel) (catA rfl) (Nat.le_of_ble_eq_true rfl) (fun X C => ?_)
  show V X G 0 0 (QE X G (some (.int r)) τ) σ 0 [some (.ref (ad G 10 0 0)), some (.int a1)] []
  refine v_aload_n C dX10_type_0 rfl rfl ?_
  refine v_iconst C dX10_type_1 ki_0 ?_
  refine pf_X10_1 C dX10_type_2 ?_
  refine v_aload_n C dX10_type_5 rfl rfl ?_
  refine gf_X10_151 C dX10_type_6 ?_
  refine v_bipush C dX10_type_9 kb_60 ?_
  refine v_icmp_ne C dX10_type_11 (tgt := 17) (by decide) h (fun h => ?_) (fun h => ?_)
  · refine v_aload_n C dX10_type_17 rfl rfl ?_
    refine gf_X10_26 C dX10_type_18 ?_
    refine v_aload_n C dX10_type_21 rfl rfl ?_
    refine gf_X10_151 C dX10_type_22 ?_
    refine v_iload_n C dX10_type_25 rfl rfl ?_
    refine as_23 C dX10_type_26 h (fun h => ?_)
    refine v_lt h (fun σ1 h => ?_)
    refine v_aload_n C dX10_type_27 rfl rfl ?_
    refine v_dup C dX10_type_28 rfl ?_
    refine gf_X10_151 C dX10_type_29 ?_
    refine v_iconst C dX10_type_32 ki_1 ?_
    refine v_iadd C dX10_type_33 ?_
    refine pf_X10_151 C dX10_type_34 ?_
    refine v_aload_n C dX10_type_37 rfl rfl ?_
    refine gf_X10_151 C dX10_type_38 ?_
    exact v_iret C dX10_type_41 h
  · refine v_bipush C dX10_type_14 kb_m3 ?_
    exact v_iret C dX10_type_16 h

def dc_X10_clearText  (σ : Sto) : Option (Int32 × Sto) :=
  (lt (up (up σ 160 0 0 (0 : Int32)) 168 0 0 (0 : Int32)) fun σ1 => some ((up σ 160 0 0 (0 : Int32)).1 168 0 0, σ1))
set_option maxRecDepth 20000 in
set_option maxHeartbeats 4000000 in
theorem s_X10_clearText {G : Gm} {d : Nat}  {σ τ : Sto} {r : Int32} (h : dc_X10_clearText  σ = some (r, τ)) : Cl G d m_X10_clearText [.ref (ad G 10 0 0)] σ (some (.int r)) τ := by
  unfold dc_X10_clearText at h
  refine Cl.mk (cc := cX10_clearText) (own := RX10) (nL := 2) (ret := (some .int)) rfl rfl rfl rfl (by decide +kernel) (catA rfl) (Nat.le_of_ble_eq_true rfl) (fun X C => ?_)
  show V X G 0 0 (QE X G (some (.int r)) τ) σ 0 [some (.ref (ad G 10 0 0)), none] []
  refine v_aload_n C dX10_clearText_0 rfl rfl ?_
  refine v_iconst C dX10_clearText_1 ki_0 ?_
  refine pf_X10_1 C dX10_clearText_2 ?_
  refine v_aload_n C dX10_clearText_5 rfl rfl ?_
  refine gf_X10_151 C dX10_clearText_6 ?_
  refine v_istore_n C dX10_clearText_9 rfl (Nat.le_of_ble_eq_true rfl) (lc1 := [some (.ref (ad G 10 0 0)), some (.int ((up σ 160 0 0 (0 : Int32)).1 168 0 0))]) rfl ?_
  refine v_aload_n C dX10_clearText_10 rfl rfl ?_
  refine v_iconst C dX10_clearText_11 ki_0 ?_
  refine pf_X10_151 C dX10_clearText_12 ?_
  refine v_lt h (fun σ1 h => ?_)
  refine v_iload_n C dX10_clearText_15 rfl rfl ?_
  exact v_iret C dX10_clearText_16 h

def dc_X10_look  (σ : Sto) : Option (Int32 × Sto) :=
  (if (σ.1 168 0 0) ≤ (σ.1 172 0 0) then some ((-1 : Int32), σ) else (if inb (σ.1 172 0 0) 60 then some (σ.1 368 0 (σ.1 172 0 0).toNatClampNeg, σ) else none))
set_option maxRecDepth 20000 in
set_option maxHeartbeats 4000000 in
theorem s_X10_look {G : Gm} {d : Nat}  {σ τ : Sto} {r : Int32} (h : dc_X10_look  σ = some (r, τ)) : Cl G d m_X10_look [.ref (ad G 10 0 0)] σ (some (.int r)) τ := by
  unfold dc_X10_look at h
  refine Cl.mk (cc := cX10_look) (own := RX10) (nL := 1) (ret := (some .int)) rfl rfl rfl rfl (by decide +kernel) (catA rfl) (Nat.le_of_ble_eq_true rfl) (fun X C => ?_)
  show V X G 0 0 (QE X G (some (.int r)) τ) σ 0 [some (.ref (ad G 10 0 0))] []
  refine v_aload_n C dX10_look_0 rfl rfl ?_
  refine gf_X10_154 C dX10_look_1 ?_
  refine v_aload_n C dX10_look_4 rfl rfl ?_
  refine gf_X10_151 C dX10_look_5 ?_
  refine v_icmp_ge C dX10_look_8 (tgt := 23) (by decide) h (fun h => ?_) (fun h => ?_)
  · refine v_iconst C dX10_look_23 ki_m1 ?_
    exact v_iret C dX10_look_24 h
  · refine v_aload_n C dX10_look_11 rfl rfl ?_
    refine gf_X10_26 C dX10_look_12 ?_
    refine v_aload_n C dX10_look_15 rfl rfl ?_
    refine gf_X10_154 C dX10_look_16 ?_
    refine ld_23 C dX10_look_19 h (fun h => ?_)
    refine v_goto C dX10_look_20 (tgt := 24) (by decide) ?_
    exact v_iret C dX10_look_24 h

def dc_X10_must (a1 : Int32) (σ : Sto) : Option Sto :=
  jn (fun (v1 : Int32) => (if v1 = 0 ∨ v1 = 1 then (if ((up σ 173 0 0 v1).1 173 0 0) = 0 then (lt (up (up σ 173 0 0 v1) 172 0 0 (((up σ 173 0 0 v1).1 172 0 0) + (1 : Int32))) fun σ3 => some σ3) else (lt (up (up σ 173 0 0 v1) 172 0 0 (((up σ 173 0 0 v1).1 172 0 0) + (0 : Int32))) fun σ4 => some σ4)) else none)) (fun k2 => (if (σ.1 173 0 0) = 0 then (if a1 = 0 then k2 (1 : Int32) else k2 (0 : Int32)) else k2 (1 : Int32)))
set_option maxRecDepth 20000 in
set_option maxHeartbeats 4000000 in
theorem s_X10_must {G : Gm} {d : Nat} (a1 : Int32) {σ τ : Sto} (h : dc_X10_must a1 σ = some τ) : Cl G d m_X10_must [.ref (ad G 10 0 0), .int a1] σ none τ := by
  unfold dc_X10_must at h
  refine Cl.mk (cc := cX10_must) (own := RX10) (nL := 2) (ret := none) rfl rfl rfl rfl (by decide +kernel) (catA rfl) (Nat.le_of_ble_eq_true rfl) (fun X C => ?_)
  show V X G 0 0 (QE X G none τ) σ 0 [some (.ref (ad G 10 0 0)), some (.int a1)] []
  refine v_aload_n C dX10_must_0 rfl rfl ?_
  refine v_aload_n C dX10_must_1 rfl rfl ?_
  refine gf_X10_157 C dX10_must_2 ?_
  refine v_join (fun k => ∀ (v1 : Int32), k v1 = some τ → V X G 0 0 (QE X G none τ) σ 17 [some (.ref (ad G 10 0 0)), some (.int a1)] [.int v1, .ref (ad G 10 0 0)]) h (fun v1 h => ?_) (fun k2 hk2 h => ?_)
  · refine pf_X10_157 C (if_some h).1 dX10_must_17 ?_
    have h := (if_some h).2
    refine v_aload_n C dX10_must_20 rfl rfl ?_
    refine v_dup C dX10_must_21 rfl ?_
    refine gf_X10_154 C dX10_must_22 ?_
    refine v_aload_n C dX10_must_25 rfl rfl ?_
    refine gf_X10_157 C dX10_must_26 ?_
    refine v_if_eq C dX10_must_29 (tgt := 36) (by decide) h (fun h => ?_) (fun h => ?_)
    · refine v_iconst C dX10_must_36 ki_1 ?_
      refine v_iadd C dX10_must_37 ?_
      refine pf_X10_154 C dX10_must_38 ?_
      refine v_lt h (fun σ3 h => ?_)
      exact v_vret C dX10_must_41 h
    · refine v_iconst C dX10_must_32 ki_0 ?_
      refine v_goto C dX10_must_33 (tgt := 37) (by decide) ?_
      refine v_iadd C dX10_must_37 ?_
      refine pf_X10_154 C dX10_must_38 ?_
      refine v_lt h (fun σ4 h => ?_)
      exact v_vret C dX10_must_41 h
  · refine v_if_ne C dX10_must_5 (tgt := 12) (by decide) h (fun h => ?_) (fun h => ?_)
    · refine v_iconst C dX10_must_12 ki_1 ?_
      refine v_goto C dX10_must_13 (tgt := 17) (by decide) ?_
      refine v_mask [true, true] (lc' := [some (.ref (ad G 10 0 0)), some (.int a1)]) rfl ?_
      exact hk2 _ h
    · refine v_iload_n C dX10_must_8 rfl rfl ?_
      refine v_if_ne C dX10_must_9 (tgt := 16) (by decide) h (fun h => ?_) (fun h => ?_)
      · refine v_iconst C dX10_must_16 ki_0 ?_
        refine v_mask [true, true] (lc' := [some (.ref (ad G 10 0 0)), some (.int a1)]) rfl ?_
        exact hk2 _ h
      · refine v_iconst C dX10_must_12 ki_1 ?_
        refine v_goto C dX10_must_13 (tgt := 17) (by decide) ?_
        refine v_mask [true, true] (lc' := [some (.ref (ad G 10 0 0)), some (.int a1)]) rfl ?_
        exact hk2 _ h

def dc_X10_digit (a1 : Int32) (σ : Sto) : Option (Int32 × Sto) :=
  (bd (dc_X10_look  σ) fun r1 σ2 => (bd (dc_X10_in (r1 - (48 : Int32)) a1 (9 : Int32) σ2) fun r3 σ4 => (bv (dc_X10_must r3 σ4) fun σ6 => some (r1 - (48 : Int32), σ6))))
set_option maxRecDepth 20000 in
set_option maxHeartbeats 4000000 in
theorem s_X10_digit {G : Gm} {d : Nat} (a1 : Int32) {σ τ : Sto} {r : Int32} (h : dc_X10_digit a1 σ = some (r, τ)) : Cl G (d + 1) m_X10_digit [.ref (ad G 10 0 0), .int a1] σ (some (.int r)) τ := by
  unfold dc_X10_digit at h
  refine Cl.mk (cc := cX10_digit) (own := RX10) (nL := 3) (ret := (some .int)) rfl rfl rfl rfl (by decide +kernel) (catA rfl) (Nat.le_of_ble_eq_true rfl) (fun X C => ?_)
  show V X G 0 0 (QE X G (some (.int r)) τ) σ 0 [some (.ref (ad G 10 0 0)), some (.int a1), none] []
  refine v_aload_n C dX10_digit_0 rfl rfl ?_
  refine cVi C 10 0 0 (av := []) si_X10_look lk_X10_160 (ok10) rfl rfl rfl rfl (st := []) rfl (Nat.le_of_ble_eq_true rfl) dX10_digit_1 h (fun _ _ hc => s_X10_look (d := d)   hc) (fun r1 σ2 h => ?_)
  refine v_bipush C dX10_digit_4 kb_48 ?_
  refine v_isub C dX10_digit_6 ?_
  refine v_istore_n C dX10_digit_7 rfl (Nat.le_of_ble_eq_true rfl) (lc1 := [some (.ref (ad G 10 0 0)), some (.int a1), some (.int (r1 - (48 : Int32)))]) rfl ?_
  refine v_aload_n C dX10_digit_8 rfl rfl ?_
  refine v_iload_n C dX10_digit_9 rfl rfl ?_
  refine v_iload_n C dX10_digit_10 rfl rfl ?_
  refine v_bipush C dX10_digit_11 kb_9 ?_
  refine cSi C (av := [.int (r1 - (48 : Int32)), .int a1, .int (9 : Int32)]) si_X10_in lk_X10_38 rfl rfl (st := [.ref (ad G 10 0 0)]) rfl (Nat.le_of_ble_eq_true rfl) dX10_digit_13 h (fun _ _ hc => s_X10_in (d := d) (r1 - (48 : Int32)) a1 (9 : Int32)  hc) (fun r3 σ4 h => ?_)
  refine cVv C 10 0 0 (av := [.int r3]) si_X10_must lk_X10_163 (ok10) rfl rfl rfl rfl (st := []) rfl (Nat.le_of_ble_eq_true rfl) dX10_digit_16 h (fun _ hc => s_X10_must (d := d) r3  hc) (fun σ6 h => ?_)
  refine v_iload_n C dX10_digit_19 rfl rfl ?_
  exact v_iret C dX10_digit_20 h

def dc_X10_tell (a1 : Int32) (σ : Sto) : Option Sto :=
  (bd (dc_X10_digit (0 : Int32) σ) fun r1 σ2 => (if inb ((4 : Int32) * a1) 64 then (bd (dc_X10_look  (up σ2 416 0 ((4 : Int32) * a1).toNatClampNeg r1)) fun r3 σ4 => jn (fun (v5 : Int32) => (bv (dc_X10_must v5 σ4) fun σ8 => (bd (dc_X10_digit (0 : Int32) σ8) fun r9 σ10 => (if inb (((4 : Int32) * a1) + (1 : Int32)) 64 then (bd (dc_X10_look  (up σ10 416 0 (((4 : Int32) * a1) + (1 : Int32)).toNatClampNeg r9)) fun r11 σ12 => jn (fun (v13 : Int32) => (if inb (((4 : Int32) * a1) + (2 : Int32)) 64 then (bd (dc_X10_look  (up σ12 416 0 (((4 : Int32) * a1) + (2 : Int32)).toNatClampNeg v13)) fun r15 σ16 => jn (fun (v17 : Int32) (σ18 : Sto) => (bv (dc_X10_must v17 σ18) fun σ21 => (bd (dc_X10_digit (1 : Int32) σ21) fun r22 σ23 => wh2 (fun (rec24 : Int32 → Int32 → Sto → Option Sto) (x26 : Int32) (x27 : Int32) (σ25 : Sto) => jn (fun (σ28 : Sto) => (if inb (((4 : Int32) * a1) + (3 : Int32)) 64 then some (up σ28 416 0 (((4 : Int32) * a1) + (3 : Int32)).toNatClampNeg x26) else none)) (fun k29 => (if (5 : Int32) ≤ x27 then k29 σ25 else (if (σ25.1 173 0 0) = 0 then (bd (dc_X10_look  σ25) fun r30 σ31 => (bd (dc_X10_in r30 (48 : Int32) (57 : Int32) σ31) fun r32 σ33 => (if r32 = 0 then k29 σ33 else (bd (dc_X10_look  σ33) fun r34 σ35 => rec24 ((((10 : Int32) * x26) + r34) - (48 : Int32)) (x27 + 1) (up σ35 172 0 0 ((σ35.1 172 0 0) + (1 : Int32))))))) else k29 σ25)))) FU r22 (1 : Int32) σ23))) (fun k19 => (if r15 = (115 : Int32) then k19 (1 : Int32) σ16 else (bd (dc_X10_look  σ16) fun r36 σ37 => (if r36 = (106 : Int32) then k19 (1 : Int32) σ37 else k19 (0 : Int32) σ37))))) else none)) (fun k14 => (if r11 = (106 : Int32) then k14 (1 : Int32) else k14 (0 : Int32)))) else none)))) (fun k6 => (if r3 = (62 : Int32) then k6 (1 : Int32) else k6 (0 : Int32)))) else none))
set_option maxRecDepth 20000 in
set_option maxHeartbeats 4000000 in
theorem s_X10_tell {G : Gm} {d : Nat} (a1 : Int32) {σ τ : Sto} (h : dc_X10_tell a1 σ = some τ) : Cl G (d + 2) m_X10_tell [.ref (ad G 10 0 0), .int a1] σ none τ := by
  unfold dc_X10_tell at h
  refine Cl.mk (cc := cX10_tell) (own := RX10) (nL := 4) (ret := none) rfl rfl rfl rfl (by decide +kernel) (catA rfl) (Nat.le_of_ble_eq_true rfl) (fun X C => ?_)
  show V X G 0 0 (QE X G none τ) σ 0 [some (.ref (ad G 10 0 0)), some (.int a1), none, none] []
  refine v_aload_n C dX10_tell_0 rfl rfl ?_
  refine gf_X10_35 C dX10_tell_1 ?_
  refine v_iconst C dX10_tell_4 ki_4 ?_
  refine v_iload_n C dX10_tell_5 rfl rfl ?_
  refine v_imul C dX10_tell_6 ?_
  refine v_aload_n C dX10_tell_7 rfl rfl ?_
  refine v_iconst C dX10_tell_8 ki_0 ?_
  refine cVi C 10 0 0 (av := [.int (0 : Int32)]) si_X10_digit lk_X10_167 (ok10) rfl rfl rfl rfl (st := [.int ((4 : Int32) * a1), .ref (ad G 26 0 0)]) rfl (Nat.le_of_ble_eq_true rfl) dX10_tell_9 h (fun _ _ hc => s_X10_digit (d := d) (0 : Int32)  hc) (fun r1 σ2 h => ?_)
  refine as_26 C dX10_tell_12 h (fun h => ?_)
  refine v_aload_n C dX10_tell_13 rfl rfl ?_
  refine v_aload_n C dX10_tell_14 rfl rfl ?_
  refine cVi C 10 0 0 (av := []) si_X10_look lk_X10_160 (ok10) rfl rfl rfl rfl (st := [.ref (ad G 10 0 0)]) rfl (Nat.le_of_ble_eq_true rfl) dX10_tell_15 h (fun _ _ hc => s_X10_look (d := (d + 1))   hc) (fun r3 σ4 h => ?_)
  refine v_bipush C dX10_tell_18 kb_62 ?_
  refine v_join (fun k => ∀ (v5 : Int32), k v5 = some τ → V X G 0 0 (QE X G none τ) σ4 28 [some (.ref (ad G 10 0 0)), some (.int a1), none, none] [.int v5, .ref (ad G 10 0 0)]) h (fun v5 h => ?_) (fun k6 hk6 h => ?_)
  · refine cVv C 10 0 0 (av := [.int v5]) si_X10_must lk_X10_163 (ok10) rfl rfl rfl rfl (st := []) rfl (Nat.le_of_ble_eq_true rfl) dX10_tell_28 h (fun _ hc => s_X10_must (d := (d + 1)) v5  hc) (fun σ8 h => ?_)
    refine v_aload_n C dX10_tell_31 rfl rfl ?_
    refine gf_X10_35 C dX10_tell_32 ?_
    refine v_iconst C dX10_tell_35 ki_4 ?_
    refine v_iload_n C dX10_tell_36 rfl rfl ?_
    refine v_imul C dX10_tell_37 ?_
    refine v_iconst C dX10_tell_38 ki_1 ?_
    refine v_iadd C dX10_tell_39 ?_
    refine v_aload_n C dX10_tell_40 rfl rfl ?_
    refine v_iconst C dX10_tell_41 ki_0 ?_
    refine cVi C 10 0 0 (av := [.int (0 : Int32)]) si_X10_digit lk_X10_167 (ok10) rfl rfl rfl rfl (st := [.int (((4 : Int32) * a1) + (1 : Int32)), .ref (ad G 26 0 0)]) rfl (Nat.le_of_ble_eq_true rfl) dX10_tell_42 h (fun _ _ hc => s_X10_digit (d := d) (0 : Int32)  hc) (fun r9 σ10 h => ?_)
    refine as_26 C dX10_tell_45 h (fun h => ?_)
    refine v_aload_n C dX10_tell_46 rfl rfl ?_
    refine gf_X10_35 C dX10_tell_47 ?_
    refine v_iconst C dX10_tell_50 ki_4 ?_
    refine v_iload_n C dX10_tell_51 rfl rfl ?_
    refine v_imul C dX10_tell_52 ?_
    refine v_iconst C dX10_tell_53 ki_2 ?_
    refine v_iadd C dX10_tell_54 ?_
    refine v_aload_n C dX10_tell_55 rfl rfl ?_
    refine cVi C 10 0 0 (av := []) si_X10_look lk_X10_160 (ok10) rfl rfl rfl rfl (st := [.int (((4 : Int32) * a1) + (2 : Int32)), .ref (ad G 26 0 0)]) rfl (Nat.le_of_ble_eq_true rfl) dX10_tell_56 h (fun _ _ hc => s_X10_look (d := (d + 1))   hc) (fun r11 σ12 h => ?_)
    refine v_bipush C dX10_tell_59 kb_106 ?_
    refine v_join (fun k => ∀ (v13 : Int32), k v13 = some τ → V X G 0 0 (QE X G none τ) σ12 69 [some (.ref (ad G 10 0 0)), some (.int a1), none, none] [.int v13, .int (((4 : Int32) * a1) + (2 : Int32)), .ref (ad G 26 0 0)]) h (fun v13 h => ?_) (fun k14 hk14 h => ?_)
    · refine as_26 C dX10_tell_69 h (fun h => ?_)
      refine v_aload_n C dX10_tell_70 rfl rfl ?_
      refine v_aload_n C dX10_tell_71 rfl rfl ?_
      refine cVi C 10 0 0 (av := []) si_X10_look lk_X10_160 (ok10) rfl rfl rfl rfl (st := [.ref (ad G 10 0 0)]) rfl (Nat.le_of_ble_eq_true rfl) dX10_tell_72 h (fun _ _ hc => s_X10_look (d := (d + 1))   hc) (fun r15 σ16 h => ?_)
      refine v_bipush C dX10_tell_75 kb_115 ?_
      refine v_join (fun k => ∀ (v17 : Int32) (σ18 : Sto), k v17 σ18 = some τ → V X G 0 0 (QE X G none τ) σ18 94 [some (.ref (ad G 10 0 0)), some (.int a1), none, none] [.int v17, .ref (ad G 10 0 0)]) h (fun v17 σ18 h => ?_) (fun k19 hk19 h => ?_)
      · refine cVv C 10 0 0 (av := [.int v17]) si_X10_must lk_X10_163 (ok10) rfl rfl rfl rfl (st := []) rfl (Nat.le_of_ble_eq_true rfl) dX10_tell_94 h (fun _ hc => s_X10_must (d := (d + 1)) v17  hc) (fun σ21 h => ?_)
        refine v_aload_n C dX10_tell_97 rfl rfl ?_
        refine v_iconst C dX10_tell_98 ki_1 ?_
        refine cVi C 10 0 0 (av := [.int (1 : Int32)]) si_X10_digit lk_X10_167 (ok10) rfl rfl rfl rfl (st := []) rfl (Nat.le_of_ble_eq_true rfl) dX10_tell_99 h (fun _ _ hc => s_X10_digit (d := d) (1 : Int32)  hc) (fun r22 σ23 h => ?_)
        refine v_istore_n C dX10_tell_102 rfl (Nat.le_of_ble_eq_true rfl) (lc1 := [some (.ref (ad G 10 0 0)), some (.int a1), some (.int r22), none]) rfl ?_
        refine v_iconst C dX10_tell_103 ki_1 ?_
        refine v_istore_n C dX10_tell_104 rfl (Nat.le_of_ble_eq_true rfl) (lc1 := [some (.ref (ad G 10 0 0)), some (.int a1), some (.int r22), some (.int (1 : Int32))]) rfl ?_
        refine v_loop2 (fun x26 x27 σ25 => V X G 0 0 (QE X G none τ) σ25 105 [some (.ref (ad G 10 0 0)), some (.int a1), some (.int x26), some (.int x27)] []) (fun rec24 hrec24 x26 x27 σ25 h => ?_) h
        refine v_iload_n C dX10_tell_105 rfl rfl ?_
        refine v_iconst C dX10_tell_106 ki_5 ?_
        refine v_join (fun k => ∀ (σ28 : Sto), k σ28 = some τ → V X G 0 0 (QE X G none τ) σ28 160 [some (.ref (ad G 10 0 0)), some (.int a1), some (.int x26), some (.int x27)] []) h (fun σ28 h => ?_) (fun k29 hk29 h => ?_)
        · refine v_aload_n C dX10_tell_160 rfl rfl ?_
          refine gf_X10_35 C dX10_tell_161 ?_
          refine v_iconst C dX10_tell_164 ki_4 ?_
          refine v_iload_n C dX10_tell_165 rfl rfl ?_
          refine v_imul C dX10_tell_166 ?_
          refine v_iconst C dX10_tell_167 ki_3 ?_
          refine v_iadd C dX10_tell_168 ?_
          refine v_iload_n C dX10_tell_169 rfl rfl ?_
          refine as_26 C dX10_tell_170 h (fun h => ?_)
          exact v_vret C dX10_tell_171 h
        · refine v_icmp_ge C dX10_tell_107 (tgt := 160) (by decide) h (fun h => ?_) (fun h => ?_)
          · refine v_mask [true, true, true, true] (lc' := [some (.ref (ad G 10 0 0)), some (.int a1), some (.int x26), some (.int x27)]) rfl ?_
            exact hk29 _ h
          · refine v_aload_n C dX10_tell_110 rfl rfl ?_
            refine gf_X10_157 C dX10_tell_111 ?_
            refine v_if_ne C dX10_tell_114 (tgt := 160) (by decide) h (fun h => ?_) (fun h => ?_)
            · refine v_mask [true, true, true, true] (lc' := [some (.ref (ad G 10 0 0)), some (.int a1), some (.int x26), some (.int x27)]) rfl ?_
              exact hk29 _ h
            · refine v_aload_n C dX10_tell_117 rfl rfl ?_
              refine cVi C 10 0 0 (av := []) si_X10_look lk_X10_160 (ok10) rfl rfl rfl rfl (st := []) rfl (Nat.le_of_ble_eq_true rfl) dX10_tell_118 h (fun _ _ hc => s_X10_look (d := (d + 1))   hc) (fun r30 σ31 h => ?_)
              refine v_bipush C dX10_tell_121 kb_48 ?_
              refine v_bipush C dX10_tell_123 kb_57 ?_
              refine cSi C (av := [.int r30, .int (48 : Int32), .int (57 : Int32)]) si_X10_in lk_X10_38 rfl rfl (st := []) rfl (Nat.le_of_ble_eq_true rfl) dX10_tell_125 h (fun _ _ hc => s_X10_in (d := (d + 1)) r30 (48 : Int32) (57 : Int32)  hc) (fun r32 σ33 h => ?_)
              refine v_if_eq C dX10_tell_128 (tgt := 160) (by decide) h (fun h => ?_) (fun h => ?_)
              · refine v_mask [true, true, true, true] (lc' := [some (.ref (ad G 10 0 0)), some (.int a1), some (.int x26), some (.int x27)]) rfl ?_
                exact hk29 _ h
              · refine v_bipush C dX10_tell_131 kb_10 ?_
                refine v_iload_n C dX10_tell_133 rfl rfl ?_
                refine v_imul C dX10_tell_134 ?_
                refine v_aload_n C dX10_tell_135 rfl rfl ?_
                refine cVi C 10 0 0 (av := []) si_X10_look lk_X10_160 (ok10) rfl rfl rfl rfl (st := [.int ((10 : Int32) * x26)]) rfl (Nat.le_of_ble_eq_true rfl) dX10_tell_136 h (fun _ _ hc => s_X10_look (d := (d + 1))   hc) (fun r34 σ35 h => ?_)
                refine v_iadd C dX10_tell_139 ?_
                refine v_bipush C dX10_tell_140 kb_48 ?_
                refine v_isub C dX10_tell_142 ?_
                refine v_istore_n C dX10_tell_143 rfl (Nat.le_of_ble_eq_true rfl) (lc1 := [some (.ref (ad G 10 0 0)), some (.int a1), some (.int ((((10 : Int32) * x26) + r34) - (48 : Int32))), some (.int x27)]) rfl ?_
                refine v_aload_n C dX10_tell_144 rfl rfl ?_
                refine v_dup C dX10_tell_145 rfl ?_
                refine gf_X10_154 C dX10_tell_146 ?_
                refine v_iconst C dX10_tell_149 ki_1 ?_
                refine v_iadd C dX10_tell_150 ?_
                refine pf_X10_154 C dX10_tell_151 ?_
                refine v_iinc C dX10_tell_154 rfl (kc_1 _) (lc1 := [some (.ref (ad G 10 0 0)), some (.int a1), some (.int ((((10 : Int32) * x26) + r34) - (48 : Int32))), some (.int (x27 + 1))]) rfl ?_
                refine v_goto C dX10_tell_157 (tgt := 105) (by decide) ?_
                refine v_mask [true, true, true, true] (lc' := [some (.ref (ad G 10 0 0)), some (.int a1), some (.int ((((10 : Int32) * x26) + r34) - (48 : Int32))), some (.int (x27 + 1))]) rfl ?_
                exact hrec24 _ _ _ h
      · refine v_icmp_eq C dX10_tell_77 (tgt := 89) (by decide) h (fun h => ?_) (fun h => ?_)
        · refine v_iconst C dX10_tell_89 ki_1 ?_
          refine v_goto C dX10_tell_90 (tgt := 94) (by decide) ?_
          refine v_mask [true, true, false, false] (lc' := [some (.ref (ad G 10 0 0)), some (.int a1), none, none]) rfl ?_
          exact hk19 _ _ h
        · refine v_aload_n C dX10_tell_80 rfl rfl ?_
          refine cVi C 10 0 0 (av := []) si_X10_look lk_X10_160 (ok10) rfl rfl rfl rfl (st := [.ref (ad G 10 0 0)]) rfl (Nat.le_of_ble_eq_true rfl) dX10_tell_81 h (fun _ _ hc => s_X10_look (d := (d + 1))   hc) (fun r36 σ37 h => ?_)
          refine v_bipush C dX10_tell_84 kb_106 ?_
          refine v_icmp_ne C dX10_tell_86 (tgt := 93) (by decide) h (fun h => ?_) (fun h => ?_)
          · refine v_iconst C dX10_tell_93 ki_0 ?_
            refine v_mask [true, true, false, false] (lc' := [some (.ref (ad G 10 0 0)), some (.int a1), none, none]) rfl ?_
            exact hk19 _ _ h
          · refine v_iconst C dX10_tell_89 ki_1 ?_
            refine v_goto C dX10_tell_90 (tgt := 94) (by decide) ?_
            refine v_mask [true, true, false, false] (lc' := [some (.ref (ad G 10 0 0)), some (.int a1), none, none]) rfl ?_
            exact hk19 _ _ h
    · refine v_icmp_ne C dX10_tell_61 (tgt := 68) (by decide) h (fun h => ?_) (fun h => ?_)
      · refine v_iconst C dX10_tell_68 ki_0 ?_
        refine v_mask [true, true, false, false] (lc' := [some (.ref (ad G 10 0 0)), some (.int a1), none, none]) rfl ?_
        exact hk14 _ h
      · refine v_iconst C dX10_tell_64 ki_1 ?_
        refine v_goto C dX10_tell_65 (tgt := 69) (by decide) ?_
        refine v_mask [true, true, false, false] (lc' := [some (.ref (ad G 10 0 0)), some (.int a1), none, none]) rfl ?_
        exact hk14 _ h
  · refine v_icmp_ne C dX10_tell_20 (tgt := 27) (by decide) h (fun h => ?_) (fun h => ?_)
    · refine v_iconst C dX10_tell_27 ki_0 ?_
      refine v_mask [true, true, false, false] (lc' := [some (.ref (ad G 10 0 0)), some (.int a1), none, none]) rfl ?_
      exact hk6 _ h
    · refine v_iconst C dX10_tell_23 ki_1 ?_
      refine v_goto C dX10_tell_24 (tgt := 28) (by decide) ?_
      refine v_mask [true, true, false, false] (lc' := [some (.ref (ad G 10 0 0)), some (.int a1), none, none]) rfl ?_
      exact hk6 _ h

def dc_X10_readFundings  (σ : Sto) : Option (Int32 × Sto) :=
  (bv (dc_X10_aside  σ) fun σ2 => (lt (up (up σ2 172 0 0 (0 : Int32)) 173 0 0 (0 : Int32)) fun σ3 => wh2 (fun (rec4 : Int32 → Int32 → Sto → Option (Int32 × Sto)) (x6 : Int32) (x7 : Int32) (σ5 : Sto) => (if x7 = 0 then (if (σ5.1 173 0 0) = 0 then wh1 (fun (rec8 : Int32 → Sto → Option (Int32 × Sto)) (x10 : Int32) (σ9 : Sto) => (if x6 ≤ x10 then (bd (dc_X10_acted x6 σ9) fun r11 σ12 => some (r11, σ12)) else (if inb ((4 : Int32) * x10) 64 then (if inb (((4 : Int32) * x10) + (1 : Int32)) 64 then (if inb (((4 : Int32) * x10) + (2 : Int32)) 64 then (if inb (((4 : Int32) * x10) + (3 : Int32)) 64 then (bd (dc_X10_funds (σ9.1 416 0 ((4 : Int32) * x10).toNatClampNeg) (σ9.1 416 0 (((4 : Int32) * x10) + (1 : Int32)).toNatClampNeg) (σ9.1 416 0 (((4 : Int32) * x10) + (2 : Int32)).toNatClampNeg) (σ9.1 416 0 (((4 : Int32) * x10) + (3 : Int32)).toNatClampNeg) σ9) fun r13 σ14 => (if 0 ≤ r13 then rec8 (x10 + 1) σ14 else (bv (dc_X10_putBack  σ14) fun σ16 => some (r13, σ16)))) else none) else none) else none) else none))) FU (0 : Int32) σ5 else some ((-100 : Int32) - (σ5.1 172 0 0), σ5)) else (bv (dc_X10_tell x6 σ5) fun σ18 => jn (fun (v19 : Int32) => (if v19 = 0 then rec4 (x6 + 1) v19 σ18 else (bd (dc_X10_look  σ18) fun r21 σ22 => jn (fun (v23 : Int32) => (bv (dc_X10_must v23 σ22) fun σ26 => (if (σ26.1 173 0 0) = 0 then rec4 (x6 + 1) (1 : Int32) σ26 else rec4 (x6 + 1) (0 : Int32) σ26))) (fun k24 => (if r21 = (59 : Int32) then k24 (1 : Int32) else k24 (0 : Int32)))))) (fun k20 => (if (σ18.1 173 0 0) = 0 then (if (σ18.1 168 0 0) ≤ (σ18.1 172 0 0) then k20 (0 : Int32) else k20 (1 : Int32)) else k20 (0 : Int32)))))) FU (0 : Int32) (1 : Int32) σ3))
set_option maxRecDepth 20000 in
set_option maxHeartbeats 4000000 in
theorem s_X10_readFundings {G : Gm} {d : Nat}  {σ τ : Sto} {r : Int32} (h : dc_X10_readFundings  σ = some (r, τ)) : Cl G (d + 4) m_X10_readFundings [.ref (ad G 10 0 0)] σ (some (.int r)) τ := by
  unfold dc_X10_readFundings at h
  refine Cl.mk (cc := cX10_readFundings) (own := RX10) (nL := 5) (ret := (some .int)) rfl rfl rfl rfl (by decide +kernel) (catA rfl) (Nat.le_of_ble_eq_true rfl) (fun X C => ?_)
  show V X G 0 0 (QE X G (some (.int r)) τ) σ 0 [some (.ref (ad G 10 0 0)), none, none, none, none] []
  refine v_aload_n C dX10_readFundings_0 rfl rfl ?_
  refine cVv C 10 0 0 (av := []) si_X10_aside lk_X10_58 (ok10) rfl rfl rfl rfl (st := []) rfl (Nat.le_of_ble_eq_true rfl) dX10_readFundings_1 h (fun _ hc => s_X10_aside (d := (d + 3))   hc) (fun σ2 h => ?_)
  refine v_aload_n C dX10_readFundings_4 rfl rfl ?_
  refine v_iconst C dX10_readFundings_5 ki_0 ?_
  refine pf_X10_154 C dX10_readFundings_6 ?_
  refine v_aload_n C dX10_readFundings_9 rfl rfl ?_
  refine v_iconst C dX10_readFundings_10 ki_0 ?_
  refine pf_X10_157 C (Or.inl rfl) dX10_readFundings_11 ?_
  refine v_lt h (fun σ3 h => ?_)
  refine v_iconst C dX10_readFundings_14 ki_0 ?_
  refine v_istore_n C dX10_readFundings_15 rfl (Nat.le_of_ble_eq_true rfl) (lc1 := [some (.ref (ad G 10 0 0)), some (.int (0 : Int32)), none, none, none]) rfl ?_
  refine v_iconst C dX10_readFundings_16 ki_1 ?_
  refine v_istore_n C dX10_readFundings_17 rfl (Nat.le_of_ble_eq_true rfl) (lc1 := [some (.ref (ad G 10 0 0)), some (.int (0 : Int32)), some (.int (1 : Int32)), none, none]) rfl ?_
  refine v_loop2 (fun x6 x7 σ5 => V X G 0 0 (QE X G (some (.int r)) τ) σ5 18 [some (.ref (ad G 10 0 0)), some (.int x6), some (.int x7), none, none] []) (fun rec4 hrec4 x6 x7 σ5 h => ?_) h
  refine v_iload_n C dX10_readFundings_18 rfl rfl ?_
  refine v_if_eq C dX10_readFundings_19 (tgt := 92) (by decide) h (fun h => ?_) (fun h => ?_)
  · refine v_aload_n C dX10_readFundings_92 rfl rfl ?_
    refine gf_X10_157 C dX10_readFundings_93 ?_
    refine v_if_eq C dX10_readFundings_96 (tgt := 107) (by decide) h (fun h => ?_) (fun h => ?_)
    · refine v_iconst C dX10_readFundings_107 ki_0 ?_
      refine v_istore_n C dX10_readFundings_108 rfl (Nat.le_of_ble_eq_true rfl) (lc1 := [some (.ref (ad G 10 0 0)), some (.int x6), some (.int x7), some (.int (0 : Int32)), none]) rfl ?_
      refine v_loop1 (fun x10 σ9 => V X G 0 0 (QE X G (some (.int r)) τ) σ9 109 [some (.ref (ad G 10 0 0)), some (.int x6), some (.int x7), some (.int x10), none] []) (fun rec8 hrec8 x10 σ9 h => ?_) h
      refine v_iload_n C dX10_readFundings_109 rfl rfl ?_
      refine v_iload_n C dX10_readFundings_110 rfl rfl ?_
      refine v_icmp_ge C dX10_readFundings_111 (tgt := 176) (by decide) h (fun h => ?_) (fun h => ?_)
      · refine v_aload_n C dX10_readFundings_176 rfl rfl ?_
        refine v_iload_n C dX10_readFundings_177 rfl rfl ?_
        refine cVi C 10 0 0 (av := [.int x6]) si_X10_acted lk_X10_61 (ok10) rfl rfl rfl rfl (st := []) rfl (Nat.le_of_ble_eq_true rfl) dX10_readFundings_178 h (fun _ _ hc => s_X10_acted (d := (d + 2)) x6  hc) (fun r11 σ12 h => ?_)
        exact v_iret C dX10_readFundings_181 h
      · refine v_aload_n C dX10_readFundings_114 rfl rfl ?_
        refine v_aload_n C dX10_readFundings_115 rfl rfl ?_
        refine gf_X10_35 C dX10_readFundings_116 ?_
        refine v_iconst C dX10_readFundings_119 ki_4 ?_
        refine v_iload_n C dX10_readFundings_120 rfl rfl ?_
        refine v_imul C dX10_readFundings_121 ?_
        refine ld_26 C dX10_readFundings_122 h (fun h => ?_)
        refine v_aload_n C dX10_readFundings_123 rfl rfl ?_
        refine gf_X10_35 C dX10_readFundings_124 ?_
        refine v_iconst C dX10_readFundings_127 ki_4 ?_
        refine v_iload_n C dX10_readFundings_128 rfl rfl ?_
        refine v_imul C dX10_readFundings_129 ?_
        refine v_iconst C dX10_readFundings_130 ki_1 ?_
        refine v_iadd C dX10_readFundings_131 ?_
        refine ld_26 C dX10_readFundings_132 h (fun h => ?_)
        refine v_aload_n C dX10_readFundings_133 rfl rfl ?_
        refine gf_X10_35 C dX10_readFundings_134 ?_
        refine v_iconst C dX10_readFundings_137 ki_4 ?_
        refine v_iload_n C dX10_readFundings_138 rfl rfl ?_
        refine v_imul C dX10_readFundings_139 ?_
        refine v_iconst C dX10_readFundings_140 ki_2 ?_
        refine v_iadd C dX10_readFundings_141 ?_
        refine ld_26 C dX10_readFundings_142 h (fun h => ?_)
        refine v_aload_n C dX10_readFundings_143 rfl rfl ?_
        refine gf_X10_35 C dX10_readFundings_144 ?_
        refine v_iconst C dX10_readFundings_147 ki_4 ?_
        refine v_iload_n C dX10_readFundings_148 rfl rfl ?_
        refine v_imul C dX10_readFundings_149 ?_
        refine v_iconst C dX10_readFundings_150 ki_3 ?_
        refine v_iadd C dX10_readFundings_151 ?_
        refine ld_26 C dX10_readFundings_152 h (fun h => ?_)
        refine cVi C 10 0 0 (av := [.int (σ9.1 416 0 ((4 : Int32) * x10).toNatClampNeg), .int (σ9.1 416 0 (((4 : Int32) * x10) + (1 : Int32)).toNatClampNeg), .int (σ9.1 416 0 (((4 : Int32) * x10) + (2 : Int32)).toNatClampNeg), .int (σ9.1 416 0 (((4 : Int32) * x10) + (3 : Int32)).toNatClampNeg)]) si_X10_funds lk_X10_93 (ok10) rfl rfl rfl rfl (st := []) rfl (Nat.le_of_ble_eq_true rfl) dX10_readFundings_153 h (fun _ _ hc => s_X10_funds (d := d) (σ9.1 416 0 ((4 : Int32) * x10).toNatClampNeg) (σ9.1 416 0 (((4 : Int32) * x10) + (1 : Int32)).toNatClampNeg) (σ9.1 416 0 (((4 : Int32) * x10) + (2 : Int32)).toNatClampNeg) (σ9.1 416 0 (((4 : Int32) * x10) + (3 : Int32)).toNatClampNeg)  hc) (fun r13 σ14 h => ?_)
        refine v_istore C dX10_readFundings_156 (Nat.le_of_ble_eq_true rfl) (lc1 := [some (.ref (ad G 10 0 0)), some (.int x6), some (.int x7), some (.int x10), some (.int r13)]) rfl ?_
        refine v_iload C dX10_readFundings_158 rfl ?_
        refine v_if_ge C dX10_readFundings_160 (tgt := 170) (by decide) h (fun h => ?_) (fun h => ?_)
        · refine v_iinc C dX10_readFundings_170 rfl (kc_1 _) (lc1 := [some (.ref (ad G 10 0 0)), some (.int x6), some (.int x7), some (.int (x10 + 1)), some (.int r13)]) rfl ?_
          refine v_goto C dX10_readFundings_173 (tgt := 109) (by decide) ?_
          refine v_mask [true, true, true, true, false] (lc' := [some (.ref (ad G 10 0 0)), some (.int x6), some (.int x7), some (.int (x10 + 1)), none]) rfl ?_
          exact hrec8 _ _ h
        · refine v_aload_n C dX10_readFundings_163 rfl rfl ?_
          refine cVv C 10 0 0 (av := []) si_X10_putBack lk_X10_50 (ok10) rfl rfl rfl rfl (st := []) rfl (Nat.le_of_ble_eq_true rfl) dX10_readFundings_164 h (fun _ hc => s_X10_putBack (d := (d + 3))   hc) (fun σ16 h => ?_)
          refine v_iload C dX10_readFundings_167 rfl ?_
          exact v_iret C dX10_readFundings_169 h
    · refine v_bipush C dX10_readFundings_99 kb_m100 ?_
      refine v_aload_n C dX10_readFundings_101 rfl rfl ?_
      refine gf_X10_154 C dX10_readFundings_102 ?_
      refine v_isub C dX10_readFundings_105 ?_
      exact v_iret C dX10_readFundings_106 h
  · refine v_aload_n C dX10_readFundings_22 rfl rfl ?_
    refine v_iload_n C dX10_readFundings_23 rfl rfl ?_
    refine cVv C 10 0 0 (av := [.int x6]) si_X10_tell lk_X10_170 (ok10) rfl rfl rfl rfl (st := []) rfl (Nat.le_of_ble_eq_true rfl) dX10_readFundings_24 h (fun _ hc => s_X10_tell (d := (d + 1)) x6  hc) (fun σ18 h => ?_)
    refine v_iinc C dX10_readFundings_27 rfl (kc_1 _) (lc1 := [some (.ref (ad G 10 0 0)), some (.int (x6 + 1)), some (.int x7), none, none]) rfl ?_
    refine v_aload_n C dX10_readFundings_30 rfl rfl ?_
    refine gf_X10_157 C dX10_readFundings_31 ?_
    refine v_join (fun k => ∀ (v19 : Int32), k v19 = some (r, τ) → V X G 0 0 (QE X G (some (.int r)) τ) σ18 53 [some (.ref (ad G 10 0 0)), some (.int (x6 + 1)), some (.int x7), none, none] [.int v19]) h (fun v19 h => ?_) (fun k20 hk20 h => ?_)
    · refine v_istore_n C dX10_readFundings_53 rfl (Nat.le_of_ble_eq_true rfl) (lc1 := [some (.ref (ad G 10 0 0)), some (.int (x6 + 1)), some (.int v19), none, none]) rfl ?_
      refine v_iload_n C dX10_readFundings_54 rfl rfl ?_
      refine v_if_eq C dX10_readFundings_55 (tgt := 18) (by decide) h (fun h => ?_) (fun h => ?_)
      · refine v_mask [true, true, true, false, false] (lc' := [some (.ref (ad G 10 0 0)), some (.int (x6 + 1)), some (.int v19), none, none]) rfl ?_
        exact hrec4 _ _ _ h
      · refine v_aload_n C dX10_readFundings_58 rfl rfl ?_
        refine v_aload_n C dX10_readFundings_59 rfl rfl ?_
        refine cVi C 10 0 0 (av := []) si_X10_look lk_X10_160 (ok10) rfl rfl rfl rfl (st := [.ref (ad G 10 0 0)]) rfl (Nat.le_of_ble_eq_true rfl) dX10_readFundings_60 h (fun _ _ hc => s_X10_look (d := (d + 3))   hc) (fun r21 σ22 h => ?_)
        refine v_bipush C dX10_readFundings_63 kb_59 ?_
        refine v_join (fun k => ∀ (v23 : Int32), k v23 = some (r, τ) → V X G 0 0 (QE X G (some (.int r)) τ) σ22 73 [some (.ref (ad G 10 0 0)), some (.int (x6 + 1)), some (.int v19), none, none] [.int v23, .ref (ad G 10 0 0)]) h (fun v23 h => ?_) (fun k24 hk24 h => ?_)
        · refine cVv C 10 0 0 (av := [.int v23]) si_X10_must lk_X10_163 (ok10) rfl rfl rfl rfl (st := []) rfl (Nat.le_of_ble_eq_true rfl) dX10_readFundings_73 h (fun _ hc => s_X10_must (d := (d + 3)) v23  hc) (fun σ26 h => ?_)
          refine v_aload_n C dX10_readFundings_76 rfl rfl ?_
          refine gf_X10_157 C dX10_readFundings_77 ?_
          refine v_if_ne C dX10_readFundings_80 (tgt := 87) (by decide) h (fun h => ?_) (fun h => ?_)
          · refine v_iconst C dX10_readFundings_87 ki_0 ?_
            refine v_istore_n C dX10_readFundings_88 rfl (Nat.le_of_ble_eq_true rfl) (lc1 := [some (.ref (ad G 10 0 0)), some (.int (x6 + 1)), some (.int (0 : Int32)), none, none]) rfl ?_
            refine v_goto C dX10_readFundings_89 (tgt := 18) (by decide) ?_
            refine v_mask [true, true, true, false, false] (lc' := [some (.ref (ad G 10 0 0)), some (.int (x6 + 1)), some (.int (0 : Int32)), none, none]) rfl ?_
            exact hrec4 _ _ _ h
          · refine v_iconst C dX10_readFundings_83 ki_1 ?_
            refine v_goto C dX10_readFundings_84 (tgt := 88) (by decide) ?_
            refine v_istore_n C dX10_readFundings_88 rfl (Nat.le_of_ble_eq_true rfl) (lc1 := [some (.ref (ad G 10 0 0)), some (.int (x6 + 1)), some (.int (1 : Int32)), none, none]) rfl ?_
            refine v_goto C dX10_readFundings_89 (tgt := 18) (by decide) ?_
            refine v_mask [true, true, true, false, false] (lc' := [some (.ref (ad G 10 0 0)), some (.int (x6 + 1)), some (.int (1 : Int32)), none, none]) rfl ?_
            exact hrec4 _ _ _ h
        · refine v_icmp_ne C dX10_readFundings_65 (tgt := 72) (by decide) h (fun h => ?_) (fun h => ?_)
          · refine v_iconst C dX10_readFundings_72 ki_0 ?_
            refine v_mask [true, true, true, false, false] (lc' := [some (.ref (ad G 10 0 0)), some (.int (x6 + 1)), some (.int v19), none, none]) rfl ?_
            exact hk24 _ h
          · refine v_iconst C dX10_readFundings_68 ki_1 ?_
            refine v_goto C dX10_readFundings_69 (tgt := 73) (by decide) ?_
            refine v_mask [true, true, true, false, false] (lc' := [some (.ref (ad G 10 0 0)), some (.int (x6 + 1)), some (.int v19), none, none]) rfl ?_
            exact hk24 _ h
    · refine v_if_ne C dX10_readFundings_34 (tgt := 52) (by decide) h (fun h => ?_) (fun h => ?_)
      · refine v_iconst C dX10_readFundings_52 ki_0 ?_
        refine v_mask [true, true, true, false, false] (lc' := [some (.ref (ad G 10 0 0)), some (.int (x6 + 1)), some (.int x7), none, none]) rfl ?_
        exact hk20 _ h
      · refine v_aload_n C dX10_readFundings_37 rfl rfl ?_
        refine gf_X10_154 C dX10_readFundings_38 ?_
        refine v_aload_n C dX10_readFundings_41 rfl rfl ?_
        refine gf_X10_151 C dX10_readFundings_42 ?_
        refine v_icmp_ge C dX10_readFundings_45 (tgt := 52) (by decide) h (fun h => ?_) (fun h => ?_)
        · refine v_iconst C dX10_readFundings_52 ki_0 ?_
          refine v_mask [true, true, true, false, false] (lc' := [some (.ref (ad G 10 0 0)), some (.int (x6 + 1)), some (.int x7), none, none]) rfl ?_
          exact hk20 _ h
        · refine v_iconst C dX10_readFundings_48 ki_1 ?_
          refine v_goto C dX10_readFundings_49 (tgt := 53) (by decide) ?_
          refine v_mask [true, true, true, false, false] (lc' := [some (.ref (ad G 10 0 0)), some (.int (x6 + 1)), some (.int x7), none, none]) rfl ?_
          exact hk20 _ h

def dc_X10_undo  (σ : Sto) : Option (Int32 × Sto) :=
  (if ((up σ 160 0 0 (0 : Int32)).1 166 0 0) = 0 then some ((-5 : Int32), up σ 160 0 0 (0 : Int32)) else (lt (up (up σ 160 0 0 (0 : Int32)) 166 0 0 (((up σ 160 0 0 (0 : Int32)).1 166 0 0) - (1 : Int32))) fun σ1 => wh1 (fun (rec2 : Int32 → Sto → Option (Int32 × Sto)) (x4 : Int32) (σ3 : Sto) => (if (564 : Int32) ≤ x4 then some (σ3.1 166 0 0, σ3) else (if inb (((564 : Int32) * (σ3.1 166 0 0)) + x4) 2256 then (if inb x4 564 then rec2 (x4 + 1) (up σ3 304 0 x4.toNatClampNeg (σ3.1 352 0 (((564 : Int32) * (σ3.1 166 0 0)) + x4).toNatClampNeg)) else none) else none))) FU (0 : Int32) σ1))
set_option maxRecDepth 20000 in
set_option maxHeartbeats 4000000 in
theorem s_X10_undo {G : Gm} {d : Nat}  {σ τ : Sto} {r : Int32} (h : dc_X10_undo  σ = some (r, τ)) : Cl G d m_X10_undo [.ref (ad G 10 0 0)] σ (some (.int r)) τ := by
  unfold dc_X10_undo at h
  refine Cl.mk (cc := cX10_undo) (own := RX10) (nL := 2) (ret := (some .int)) rfl rfl rfl rfl (by decide +kernel) (catA rfl) (Nat.le_of_ble_eq_true rfl) (fun X C => ?_)
  show V X G 0 0 (QE X G (some (.int r)) τ) σ 0 [some (.ref (ad G 10 0 0)), none] []
  refine v_aload_n C dX10_undo_0 rfl rfl ?_
  refine v_iconst C dX10_undo_1 ki_0 ?_
  refine pf_X10_1 C dX10_undo_2 ?_
  refine v_aload_n C dX10_undo_5 rfl rfl ?_
  refine gf_X10_53 C dX10_undo_6 ?_
  refine v_if_ne C dX10_undo_9 (tgt := 15) (by decide) h (fun h => ?_) (fun h => ?_)
  · refine v_aload_n C dX10_undo_15 rfl rfl ?_
    refine v_dup C dX10_undo_16 rfl ?_
    refine gf_X10_53 C dX10_undo_17 ?_
    refine v_iconst C dX10_undo_20 ki_1 ?_
    refine v_isub C dX10_undo_21 ?_
    refine pf_X10_53 C dX10_undo_22 ?_
    refine v_lt h (fun σ1 h => ?_)
    refine v_iconst C dX10_undo_25 ki_0 ?_
    refine v_istore_n C dX10_undo_26 rfl (Nat.le_of_ble_eq_true rfl) (lc1 := [some (.ref (ad G 10 0 0)), some (.int (0 : Int32))]) rfl ?_
    refine v_loop1 (fun x4 σ3 => V X G 0 0 (QE X G (some (.int r)) τ) σ3 27 [some (.ref (ad G 10 0 0)), some (.int x4)] []) (fun rec2 hrec2 x4 σ3 h => ?_) h
    refine v_iload_n C dX10_undo_27 rfl rfl ?_
    refine v_sipush C dX10_undo_28 ks_564 ?_
    refine v_icmp_ge C dX10_undo_31 (tgt := 61) (by decide) h (fun h => ?_) (fun h => ?_)
    · refine v_aload_n C dX10_undo_61 rfl rfl ?_
      refine gf_X10_53 C dX10_undo_62 ?_
      exact v_iret C dX10_undo_65 h
    · refine v_aload_n C dX10_undo_34 rfl rfl ?_
      refine gf_X10_13 C dX10_undo_35 ?_
      refine v_iload_n C dX10_undo_38 rfl rfl ?_
      refine v_aload_n C dX10_undo_39 rfl rfl ?_
      refine gf_X10_23 C dX10_undo_40 ?_
      refine v_sipush C dX10_undo_43 ks_564 ?_
      refine v_aload_n C dX10_undo_46 rfl rfl ?_
      refine gf_X10_53 C dX10_undo_47 ?_
      refine v_imul C dX10_undo_50 ?_
      refine v_iload_n C dX10_undo_51 rfl rfl ?_
      refine v_iadd C dX10_undo_52 ?_
      refine ld_22 C dX10_undo_53 h (fun h => ?_)
      refine as_19 C dX10_undo_54 h (fun h => ?_)
      refine v_iinc C dX10_undo_55 rfl (kc_1 _) (lc1 := [some (.ref (ad G 10 0 0)), some (.int (x4 + 1))]) rfl ?_
      refine v_goto C dX10_undo_58 (tgt := 27) (by decide) ?_
      refine v_mask [true, true] (lc' := [some (.ref (ad G 10 0 0)), some (.int (x4 + 1))]) rfl ?_
      exact hrec2 _ _ h
  · refine v_bipush C dX10_undo_12 kb_m5 ?_
    exact v_iret C dX10_undo_14 h

def dc_X10_keep  (σ : Sto) : Option (Int32 × Sto) :=
  wh1 (fun (rec1 : Int32 → Sto → Option (Int32 × Sto)) (x3 : Int32) (σ2 : Sto) => (if (564 : Int32) ≤ x3 then (if inb (3 : Int32) 564 then some ((up σ2 164 0 0 (1 : Int32)).1 304 0 (3 : Int32).toNatClampNeg, up σ2 164 0 0 (1 : Int32)) else none) else (if inb x3 564 then (if inb x3 564 then rec1 (x3 + 1) (up σ2 336 0 x3.toNatClampNeg (σ2.1 304 0 x3.toNatClampNeg)) else none) else none))) FU (0 : Int32) (up σ 160 0 0 (0 : Int32))
set_option maxRecDepth 20000 in
set_option maxHeartbeats 4000000 in
theorem s_X10_keep {G : Gm} {d : Nat}  {σ τ : Sto} {r : Int32} (h : dc_X10_keep  σ = some (r, τ)) : Cl G d m_X10_keep [.ref (ad G 10 0 0)] σ (some (.int r)) τ := by
  unfold dc_X10_keep at h
  refine Cl.mk (cc := cX10_keep) (own := RX10) (nL := 2) (ret := (some .int)) rfl rfl rfl rfl (by decide +kernel) (catA rfl) (Nat.le_of_ble_eq_true rfl) (fun X C => ?_)
  show V X G 0 0 (QE X G (some (.int r)) τ) σ 0 [some (.ref (ad G 10 0 0)), none] []
  refine v_aload_n C dX10_keep_0 rfl rfl ?_
  refine v_iconst C dX10_keep_1 ki_0 ?_
  refine pf_X10_1 C dX10_keep_2 ?_
  refine v_iconst C dX10_keep_5 ki_0 ?_
  refine v_istore_n C dX10_keep_6 rfl (Nat.le_of_ble_eq_true rfl) (lc1 := [some (.ref (ad G 10 0 0)), some (.int (0 : Int32))]) rfl ?_
  refine v_loop1 (fun x3 σ2 => V X G 0 0 (QE X G (some (.int r)) τ) σ2 7 [some (.ref (ad G 10 0 0)), some (.int x3)] []) (fun rec1 hrec1 x3 σ2 h => ?_) h
  refine v_iload_n C dX10_keep_7 rfl rfl ?_
  refine v_sipush C dX10_keep_8 ks_564 ?_
  refine v_icmp_ge C dX10_keep_11 (tgt := 32) (by decide) h (fun h => ?_) (fun h => ?_)
  · refine v_aload_n C dX10_keep_32 rfl rfl ?_
    refine v_iconst C dX10_keep_33 ki_1 ?_
    refine pf_X10_173 C (Or.inr rfl) dX10_keep_34 ?_
    refine v_aload_n C dX10_keep_37 rfl rfl ?_
    refine gf_X10_13 C dX10_keep_38 ?_
    refine v_iconst C dX10_keep_41 ki_3 ?_
    refine ld_19 C dX10_keep_42 h (fun h => ?_)
    exact v_iret C dX10_keep_43 h
  · refine v_aload_n C dX10_keep_14 rfl rfl ?_
    refine gf_X10_20 C dX10_keep_15 ?_
    refine v_iload_n C dX10_keep_18 rfl rfl ?_
    refine v_aload_n C dX10_keep_19 rfl rfl ?_
    refine gf_X10_13 C dX10_keep_20 ?_
    refine v_iload_n C dX10_keep_23 rfl rfl ?_
    refine ld_19 C dX10_keep_24 h (fun h => ?_)
    refine as_21 C dX10_keep_25 h (fun h => ?_)
    refine v_iinc C dX10_keep_26 rfl (kc_1 _) (lc1 := [some (.ref (ad G 10 0 0)), some (.int (x3 + 1))]) rfl ?_
    refine v_goto C dX10_keep_29 (tgt := 7) (by decide) ?_
    refine v_mask [true, true] (lc' := [some (.ref (ad G 10 0 0)), some (.int (x3 + 1))]) rfl ?_
    exact hrec1 _ _ h

def dc_X10_restore  (σ : Sto) : Option (Int32 × Sto) :=
  (bv (dc_X10_aside  σ) fun σ2 => (if (σ2.1 164 0 0) = 0 then some ((-5 : Int32), σ2) else wh1 (fun (rec3 : Int32 → Sto → Option (Int32 × Sto)) (x5 : Int32) (σ4 : Sto) => (if (564 : Int32) ≤ x5 then (if inb (3 : Int32) 564 then (bd (dc_X10_acted (σ4.1 304 0 (3 : Int32).toNatClampNeg) σ4) fun r6 σ7 => some (r6, σ7)) else none) else (if inb x5 564 then (if inb x5 564 then rec3 (x5 + 1) (up σ4 304 0 x5.toNatClampNeg (σ4.1 336 0 x5.toNatClampNeg)) else none) else none))) FU (0 : Int32) σ2))
set_option maxRecDepth 20000 in
set_option maxHeartbeats 4000000 in
theorem s_X10_restore {G : Gm} {d : Nat}  {σ τ : Sto} {r : Int32} (h : dc_X10_restore  σ = some (r, τ)) : Cl G (d + 2) m_X10_restore [.ref (ad G 10 0 0)] σ (some (.int r)) τ := by
  unfold dc_X10_restore at h
  refine Cl.mk (cc := cX10_restore) (own := RX10) (nL := 2) (ret := (some .int)) rfl rfl rfl rfl (by decide +kernel) (catA rfl) (Nat.le_of_ble_eq_true rfl) (fun X C => ?_)
  show V X G 0 0 (QE X G (some (.int r)) τ) σ 0 [some (.ref (ad G 10 0 0)), none] []
  refine v_aload_n C dX10_restore_0 rfl rfl ?_
  refine cVv C 10 0 0 (av := []) si_X10_aside lk_X10_58 (ok10) rfl rfl rfl rfl (st := []) rfl (Nat.le_of_ble_eq_true rfl) dX10_restore_1 h (fun _ hc => s_X10_aside (d := (d + 1))   hc) (fun σ2 h => ?_)
  refine v_aload_n C dX10_restore_4 rfl rfl ?_
  refine gf_X10_173 C dX10_restore_5 ?_
  refine v_if_ne C dX10_restore_8 (tgt := 14) (by decide) h (fun h => ?_) (fun h => ?_)
  · refine v_iconst C dX10_restore_14 ki_0 ?_
    refine v_istore_n C dX10_restore_15 rfl (Nat.le_of_ble_eq_true rfl) (lc1 := [some (.ref (ad G 10 0 0)), some (.int (0 : Int32))]) rfl ?_
    refine v_loop1 (fun x5 σ4 => V X G 0 0 (QE X G (some (.int r)) τ) σ4 16 [some (.ref (ad G 10 0 0)), some (.int x5)] []) (fun rec3 hrec3 x5 σ4 h => ?_) h
    refine v_iload_n C dX10_restore_16 rfl rfl ?_
    refine v_sipush C dX10_restore_17 ks_564 ?_
    refine v_icmp_ge C dX10_restore_20 (tgt := 41) (by decide) h (fun h => ?_) (fun h => ?_)
    · refine v_aload_n C dX10_restore_41 rfl rfl ?_
      refine v_aload_n C dX10_restore_42 rfl rfl ?_
      refine gf_X10_13 C dX10_restore_43 ?_
      refine v_iconst C dX10_restore_46 ki_3 ?_
      refine ld_19 C dX10_restore_47 h (fun h => ?_)
      refine cVi C 10 0 0 (av := [.int (σ4.1 304 0 (3 : Int32).toNatClampNeg)]) si_X10_acted lk_X10_61 (ok10) rfl rfl rfl rfl (st := []) rfl (Nat.le_of_ble_eq_true rfl) dX10_restore_48 h (fun _ _ hc => s_X10_acted (d := d) (σ4.1 304 0 (3 : Int32).toNatClampNeg)  hc) (fun r6 σ7 h => ?_)
      exact v_iret C dX10_restore_51 h
    · refine v_aload_n C dX10_restore_23 rfl rfl ?_
      refine gf_X10_13 C dX10_restore_24 ?_
      refine v_iload_n C dX10_restore_27 rfl rfl ?_
      refine v_aload_n C dX10_restore_28 rfl rfl ?_
      refine gf_X10_20 C dX10_restore_29 ?_
      refine v_iload_n C dX10_restore_32 rfl rfl ?_
      refine ld_21 C dX10_restore_33 h (fun h => ?_)
      refine as_19 C dX10_restore_34 h (fun h => ?_)
      refine v_iinc C dX10_restore_35 rfl (kc_1 _) (lc1 := [some (.ref (ad G 10 0 0)), some (.int (x5 + 1))]) rfl ?_
      refine v_goto C dX10_restore_38 (tgt := 16) (by decide) ?_
      refine v_mask [true, true] (lc' := [some (.ref (ad G 10 0 0)), some (.int (x5 + 1))]) rfl ?_
      exact hrec3 _ _ h
  · refine v_bipush C dX10_restore_11 kb_m5 ?_
    exact v_iret C dX10_restore_13 h

def dc_X10_held (a1 : Int32) (a2 : Int32) (σ : Sto) : Option (Int32 × Sto) :=
  wh2 (fun (rec1 : Int32 → Int32 → Sto → Option (Int32 × Sto)) (x3 : Int32) (x4 : Int32) (σ2 : Sto) => (if inb (3 : Int32) 564 then (if (σ2.1 304 0 (3 : Int32).toNatClampNeg) ≤ x4 then some (x3, σ2) else (bd (dc_X10_ofNote x4 (0 : Int32) σ2) fun r5 σ6 => (if r5 = a1 then (bd (dc_X10_ofNote x4 (3 : Int32) σ6) fun r7 σ8 => (if r7 ≤ 0 then rec1 x3 (x4 + 1) σ8 else (if a2 = (1 : Int32) then (bd (dc_X10_ofNote x4 (3 : Int32) σ8) fun r11 σ12 => rec1 (x3 + r11) (x4 + 1) σ12) else (if a2 = (2 : Int32) then rec1 (x3 + (1 : Int32)) (x4 + 1) σ8 else (bd (dc_X10_ofNote x4 (1 : Int32) σ8) fun r9 σ10 => rec1 (x3 ||| ((1 : Int32) <<< (r9 &&& 31))) (x4 + 1) σ10))))) else rec1 x3 (x4 + 1) σ6))) else none)) FU (0 : Int32) (0 : Int32) σ
set_option maxRecDepth 20000 in
set_option maxHeartbeats 4000000 in
theorem s_X10_held {G : Gm} {d : Nat} (a1 : Int32) (a2 : Int32) {σ τ : Sto} {r : Int32} (h : dc_X10_held a1 a2 σ = some (r, τ)) : Cl G (d + 1) m_X10_held [.ref (ad G 10 0 0), .int a1, .int a2] σ (some (.int r)) τ := by
  unfold dc_X10_held at h
  refine Cl.mk (cc := cX10_held) (own := RX10) (nL := 5) (ret := (some .int)) rfl rfl rfl rfl (by decide +kernel) (catA rfl) (Nat.le_of_ble_eq_true rfl) (fun X C => ?_)
  show V X G 0 0 (QE X G (some (.int r)) τ) σ 0 [some (.ref (ad G 10 0 0)), some (.int a1), some (.int a2), none, none] []
  refine v_iconst C dX10_held_0 ki_0 ?_
  refine v_istore_n C dX10_held_1 rfl (Nat.le_of_ble_eq_true rfl) (lc1 := [some (.ref (ad G 10 0 0)), some (.int a1), some (.int a2), some (.int (0 : Int32)), none]) rfl ?_
  refine v_iconst C dX10_held_2 ki_0 ?_
  refine v_istore C dX10_held_3 (Nat.le_of_ble_eq_true rfl) (lc1 := [some (.ref (ad G 10 0 0)), some (.int a1), some (.int a2), some (.int (0 : Int32)), some (.int (0 : Int32))]) rfl ?_
  refine v_loop2 (fun x3 x4 σ2 => V X G 0 0 (QE X G (some (.int r)) τ) σ2 5 [some (.ref (ad G 10 0 0)), some (.int a1), some (.int a2), some (.int x3), some (.int x4)] []) (fun rec1 hrec1 x3 x4 σ2 h => ?_) h
  refine v_iload C dX10_held_5 rfl ?_
  refine v_aload_n C dX10_held_7 rfl rfl ?_
  refine gf_X10_13 C dX10_held_8 ?_
  refine v_iconst C dX10_held_11 ki_3 ?_
  refine ld_19 C dX10_held_12 h (fun h => ?_)
  refine v_icmp_ge C dX10_held_13 (tgt := 83) (by decide) h (fun h => ?_) (fun h => ?_)
  · refine v_iload_n C dX10_held_83 rfl rfl ?_
    exact v_iret C dX10_held_84 h
  · refine v_aload_n C dX10_held_16 rfl rfl ?_
    refine v_iload C dX10_held_17 rfl ?_
    refine v_iconst C dX10_held_19 ki_0 ?_
    refine cVi C 10 0 0 (av := [.int x4, .int (0 : Int32)]) si_X10_ofNote lk_X10_78 (ok10) rfl rfl rfl rfl (st := []) rfl (Nat.le_of_ble_eq_true rfl) dX10_held_20 h (fun _ _ hc => s_X10_ofNote (d := d) x4 (0 : Int32)  hc) (fun r5 σ6 h => ?_)
    refine v_iload_n C dX10_held_23 rfl rfl ?_
    refine v_icmp_ne C dX10_held_24 (tgt := 77) (by decide) h (fun h => ?_) (fun h => ?_)
    · refine v_iinc C dX10_held_77 rfl (kc_1 _) (lc1 := [some (.ref (ad G 10 0 0)), some (.int a1), some (.int a2), some (.int x3), some (.int (x4 + 1))]) rfl ?_
      refine v_goto C dX10_held_80 (tgt := 5) (by decide) ?_
      refine v_mask [true, true, true, true, true] (lc' := [some (.ref (ad G 10 0 0)), some (.int a1), some (.int a2), some (.int x3), some (.int (x4 + 1))]) rfl ?_
      exact hrec1 _ _ _ h
    · refine v_aload_n C dX10_held_27 rfl rfl ?_
      refine v_iload C dX10_held_28 rfl ?_
      refine v_iconst C dX10_held_30 ki_3 ?_
      refine cVi C 10 0 0 (av := [.int x4, .int (3 : Int32)]) si_X10_ofNote lk_X10_78 (ok10) rfl rfl rfl rfl (st := []) rfl (Nat.le_of_ble_eq_true rfl) dX10_held_31 h (fun _ _ hc => s_X10_ofNote (d := d) x4 (3 : Int32)  hc) (fun r7 σ8 h => ?_)
      refine v_if_le C dX10_held_34 (tgt := 77) (by decide) h (fun h => ?_) (fun h => ?_)
      · refine v_iinc C dX10_held_77 rfl (kc_1 _) (lc1 := [some (.ref (ad G 10 0 0)), some (.int a1), some (.int a2), some (.int x3), some (.int (x4 + 1))]) rfl ?_
        refine v_goto C dX10_held_80 (tgt := 5) (by decide) ?_
        refine v_mask [true, true, true, true, true] (lc' := [some (.ref (ad G 10 0 0)), some (.int a1), some (.int a2), some (.int x3), some (.int (x4 + 1))]) rfl ?_
        exact hrec1 _ _ _ h
      · refine v_iload_n C dX10_held_37 rfl rfl ?_
        refine v_iconst C dX10_held_38 ki_1 ?_
        refine v_icmp_ne C dX10_held_39 (tgt := 54) (by decide) h (fun h => ?_) (fun h => ?_)
        · refine v_iload_n C dX10_held_54 rfl rfl ?_
          refine v_iconst C dX10_held_55 ki_2 ?_
          refine v_icmp_ne C dX10_held_56 (tgt := 65) (by decide) h (fun h => ?_) (fun h => ?_)
          · refine v_iload_n C dX10_held_65 rfl rfl ?_
            refine v_iconst C dX10_held_66 ki_1 ?_
            refine v_aload_n C dX10_held_67 rfl rfl ?_
            refine v_iload C dX10_held_68 rfl ?_
            refine v_iconst C dX10_held_70 ki_1 ?_
            refine cVi C 10 0 0 (av := [.int x4, .int (1 : Int32)]) si_X10_ofNote lk_X10_78 (ok10) rfl rfl rfl rfl (st := [.int (1 : Int32), .int x3]) rfl (Nat.le_of_ble_eq_true rfl) dX10_held_71 h (fun _ _ hc => s_X10_ofNote (d := d) x4 (1 : Int32)  hc) (fun r9 σ10 h => ?_)
            refine v_ishl C dX10_held_74 ?_
            refine v_ior C dX10_held_75 ?_
            refine v_istore_n C dX10_held_76 rfl (Nat.le_of_ble_eq_true rfl) (lc1 := [some (.ref (ad G 10 0 0)), some (.int a1), some (.int a2), some (.int (x3 ||| ((1 : Int32) <<< (r9 &&& 31)))), some (.int x4)]) rfl ?_
            refine v_iinc C dX10_held_77 rfl (kc_1 _) (lc1 := [some (.ref (ad G 10 0 0)), some (.int a1), some (.int a2), some (.int (x3 ||| ((1 : Int32) <<< (r9 &&& 31)))), some (.int (x4 + 1))]) rfl ?_
            refine v_goto C dX10_held_80 (tgt := 5) (by decide) ?_
            refine v_mask [true, true, true, true, true] (lc' := [some (.ref (ad G 10 0 0)), some (.int a1), some (.int a2), some (.int (x3 ||| ((1 : Int32) <<< (r9 &&& 31)))), some (.int (x4 + 1))]) rfl ?_
            exact hrec1 _ _ _ h
          · refine v_iload_n C dX10_held_59 rfl rfl ?_
            refine v_iconst C dX10_held_60 ki_1 ?_
            refine v_iadd C dX10_held_61 ?_
            refine v_goto C dX10_held_62 (tgt := 76) (by decide) ?_
            refine v_istore_n C dX10_held_76 rfl (Nat.le_of_ble_eq_true rfl) (lc1 := [some (.ref (ad G 10 0 0)), some (.int a1), some (.int a2), some (.int (x3 + (1 : Int32))), some (.int x4)]) rfl ?_
            refine v_iinc C dX10_held_77 rfl (kc_1 _) (lc1 := [some (.ref (ad G 10 0 0)), some (.int a1), some (.int a2), some (.int (x3 + (1 : Int32))), some (.int (x4 + 1))]) rfl ?_
            refine v_goto C dX10_held_80 (tgt := 5) (by decide) ?_
            refine v_mask [true, true, true, true, true] (lc' := [some (.ref (ad G 10 0 0)), some (.int a1), some (.int a2), some (.int (x3 + (1 : Int32))), some (.int (x4 + 1))]) rfl ?_
            exact hrec1 _ _ _ h
        · refine v_iload_n C dX10_held_42 rfl rfl ?_
          refine v_aload_n C dX10_held_43 rfl rfl ?_
          refine v_iload C dX10_held_44 rfl ?_
          refine v_iconst C dX10_held_46 ki_3 ?_
          refine cVi C 10 0 0 (av := [.int x4, .int (3 : Int32)]) si_X10_ofNote lk_X10_78 (ok10) rfl rfl rfl rfl (st := [.int x3]) rfl (Nat.le_of_ble_eq_true rfl) dX10_held_47 h (fun _ _ hc => s_X10_ofNote (d := d) x4 (3 : Int32)  hc) (fun r11 σ12 h => ?_)
          refine v_iadd C dX10_held_50 ?_
          refine v_goto C dX10_held_51 (tgt := 76) (by decide) ?_
          refine v_istore_n C dX10_held_76 rfl (Nat.le_of_ble_eq_true rfl) (lc1 := [some (.ref (ad G 10 0 0)), some (.int a1), some (.int a2), some (.int (x3 + r11)), some (.int x4)]) rfl ?_
          refine v_iinc C dX10_held_77 rfl (kc_1 _) (lc1 := [some (.ref (ad G 10 0 0)), some (.int a1), some (.int a2), some (.int (x3 + r11)), some (.int (x4 + 1))]) rfl ?_
          refine v_goto C dX10_held_80 (tgt := 5) (by decide) ?_
          refine v_mask [true, true, true, true, true] (lc' := [some (.ref (ad G 10 0 0)), some (.int a1), some (.int a2), some (.int (x3 + r11)), some (.int (x4 + 1))]) rfl ?_
          exact hrec1 _ _ _ h
