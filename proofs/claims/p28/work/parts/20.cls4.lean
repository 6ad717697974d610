/-! by program (wip/p28/walk.py): X9_pass X9_investor X9_loan X9_note X9_split X9_toRepay X9_servicer X9_count -/
def dc_X9_pass (a1 : Int32) (σ : Sto) : Option (Int32 × Sto) :=
  (if a1 < (1 : Int32) then some ((-2 : Int32), σ) else (if a1 ≤ (24 : Int32) then (if a1 ≤ ((240 : Int32) - (σ.1 87 0 0)) then (bv (dc_X2_record 0 σ) fun σ2 => wh1 (fun (rec3 : Int32 → Sto → Option (Int32 × Sto)) (x5 : Int32) (σ4 : Sto) => (if a1 ≤ x5 then (bd (dc_X5_loansInArrears 0 σ4) fun r6 σ7 => some (r6, σ7)) else (bv (dc_X5_passMonth 0 σ4) fun σ9 => rec3 (x5 + 1) σ9))) FU (0 : Int32) σ2) else some ((-4 : Int32), σ)) else some ((-2 : Int32), σ)))
set_option maxRecDepth 20000 in
set_option maxHeartbeats 4000000 in
theorem s_X9_pass {G : Gm} {d : Nat} (a1 : Int32) {σ τ : Sto} {r : Int32} (h : dc_X9_pass a1 σ = some (r, τ)) : Cl G (d + 3) m_X9_pass [.ref (ad G 9 0 0), .int a1] σ (some (.int r)) τ := by
  unfold dc_X9_pass at h
  refine Cl.mk (cc := cX9_pass) (own := RX9) (nL := 3) (ret := (some .int)) rfl rfl rfl rfl (by decide +kernel) (catA rfl) (Nat.le_of_ble_eq_true rfl) (fun X C => ?_)
  show V X G 0 0 (QE X G (some (.int r)) τ) σ 0 [some (.ref (ad G 9 0 0)), some (.int a1), none] []
  refine v_iload_n C dX9_pass_0 rfl rfl ?_
  refine v_iconst C dX9_pass_1 ki_1 ?_
  refine v_icmp_lt C dX9_pass_2 (tgt := 11) (by decide) h (fun h => ?_) (fun h => ?_)
  · refine v_bipush C dX9_pass_11 kb_m2 ?_
    exact v_iret C dX9_pass_13 h
  · refine v_iload_n C dX9_pass_5 rfl rfl ?_
    refine v_bipush C dX9_pass_6 kb_24 ?_
    refine v_icmp_le C dX9_pass_8 (tgt := 14) (by decide) h (fun h => ?_) (fun h => ?_)
    · refine v_iload_n C dX9_pass_14 rfl rfl ?_
      refine v_sipush C dX9_pass_15 ks_240 ?_
      refine v_aload_n C dX9_pass_18 rfl rfl ?_
      refine gf_X9_10 C dX9_pass_19 ?_
      refine gf_X9_216 C (by decide) dX9_pass_22 ?_
      refine v_isub C dX9_pass_25 ?_
      refine v_icmp_le C dX9_pass_26 (tgt := 32) (by decide) h (fun h => ?_) (fun h => ?_)
      · refine v_aload_n C dX9_pass_32 rfl rfl ?_
        refine gf_X9_29 C dX9_pass_33 ?_
        refine v_aload_n C dX9_pass_36 rfl rfl ?_
        refine gf_X9_10 C dX9_pass_37 ?_
        refine cVv C 2 0 0 (av := [.ref (ad G 5 0 0)]) si_X2_record lk_X9_58 (ok2) rfl rfl rfl rfl (st := []) rfl (Nat.le_of_ble_eq_true rfl) dX9_pass_40 h (fun _ hc => s_X2_record (d := d) 0 (by decide) hc) (fun σ2 h => ?_)
        refine v_iconst C dX9_pass_43 ki_0 ?_
        refine v_istore_n C dX9_pass_44 rfl (Nat.le_of_ble_eq_true rfl) (lc1 := [some (.ref (ad G 9 0 0)), some (.int a1), some (.int (0 : Int32))]) rfl ?_
        refine v_loop1 (fun x5 σ4 => V X G 0 0 (QE X G (some (.int r)) τ) σ4 45 [some (.ref (ad G 9 0 0)), some (.int a1), some (.int x5)] []) (fun rec3 hrec3 x5 σ4 h => ?_) h
        refine v_iload_n C dX9_pass_45 rfl rfl ?_
        refine v_iload_n C dX9_pass_46 rfl rfl ?_
        refine v_icmp_ge C dX9_pass_47 (tgt := 63) (by decide) h (fun h => ?_) (fun h => ?_)
        · refine v_aload_n C dX9_pass_63 rfl rfl ?_
          refine gf_X9_10 C dX9_pass_64 ?_
          refine cVi C 5 0 0 (av := []) si_X5_loansInArrears lk_X9_222 (ok5 (by decide)) rfl rfl rfl rfl (st := []) rfl (Nat.le_of_ble_eq_true rfl) dX9_pass_67 h (fun _ _ hc => s_X5_loansInArrears (d := (d + 2)) 0 (by decide) hc) (fun r6 σ7 h => ?_)
          exact v_iret C dX9_pass_70 h
        · refine v_aload_n C dX9_pass_50 rfl rfl ?_
          refine gf_X9_10 C dX9_pass_51 ?_
          refine cVv C 5 0 0 (av := []) si_X5_passMonth lk_X9_219 (ok5 (by decide)) rfl rfl rfl rfl (st := []) rfl (Nat.le_of_ble_eq_true rfl) dX9_pass_54 h (fun _ hc => s_X5_passMonth (d := d) 0 (by decide) hc) (fun σ9 h => ?_)
          refine v_iinc C dX9_pass_57 rfl (kc_1 _) (lc1 := [some (.ref (ad G 9 0 0)), some (.int a1), some (.int (x5 + 1))]) rfl ?_
          refine v_goto C dX9_pass_60 (tgt := 45) (by decide) ?_
          refine v_mask [true, true, true] (lc' := [some (.ref (ad G 9 0 0)), some (.int a1), some (.int (x5 + 1))]) rfl ?_
          exact hrec3 _ _ h
      · refine v_bipush C dX9_pass_29 kb_m4 ?_
        exact v_iret C dX9_pass_31 h
    · refine v_bipush C dX9_pass_11 kb_m2 ?_
      exact v_iret C dX9_pass_13 h

def dc_X9_investor (a1 : Int32) (a2 : Int32) (σ : Sto) : Option (Int32 × Sto) :=
  (bd (dc_X5_hasInvestor 0 a1 σ) fun r1 σ2 => (if r1 = 0 then some ((-1 : Int32), σ2) else (if inb a1 8 then (if a2 = (0 : Int32) then some (σ2.1 48 0 a1.toNatClampNeg, σ2) else (if a2 = (1 : Int32) then (bd (dc_X5_principalsOf 0 a1 σ2) fun r5 σ6 => some (r5, σ6)) else (if a2 = (2 : Int32) then (bd (dc_X5_liveNotesOf 0 a1 σ2) fun r8 σ9 => some (r8, σ9)) else (if a2 = (3 : Int32) then (bd (dc_X5_loansOf 0 a1 σ2) fun r11 σ12 => some (r11, σ12)) else (if a2 = (4 : Int32) then some (σ2.1 49 0 a1.toNatClampNeg, σ2) else (if a2 = (5 : Int32) then some (σ2.1 50 0 a1.toNatClampNeg, σ2) else some ((-2 : Int32), σ2))))))) else none)))
set_option maxRecDepth 20000 in
set_option maxHeartbeats 4000000 in
theorem s_X9_investor {G : Gm} {d : Nat} (a1 : Int32) (a2 : Int32) {σ τ : Sto} {r : Int32} (h : dc_X9_investor a1 a2 σ = some (r, τ)) : Cl G (d + 1) m_X9_investor [.ref (ad G 9 0 0), .int a1, .int a2] σ (some (.int r)) τ := by
  unfold dc_X9_investor at h
  refine Cl.mk (cc := cX9_investor) (own := RX9) (nL := 4) (ret := (some .int)) rfl rfl rfl rfl (by decide +kernel) (catA rfl) (Nat.le_of_ble_eq_true rfl) (fun X C => ?_)
  show V X G 0 0 (QE X G (some (.int r)) τ) σ 0 [some (.ref (ad G 9 0 0)), some (.int a1), some (.int a2), none] []
  refine v_aload_n C dX9_investor_0 rfl rfl ?_
  refine gf_X9_10 C dX9_investor_1 ?_
  refine v_iload_n C dX9_investor_4 rfl rfl ?_
  refine cVi C 5 0 0 (av := [.int a1]) si_X5_hasInvestor lk_X9_72 (ok5 (by decide)) rfl rfl rfl rfl (st := []) rfl (Nat.le_of_ble_eq_true rfl) dX9_investor_5 h (fun _ _ hc => s_X5_hasInvestor (d := d) 0 a1 (by decide) hc) (fun r1 σ2 h => ?_)
  refine v_if_ne C dX9_investor_8 (tgt := 13) (by decide) h (fun h => ?_) (fun h => ?_)
  · refine v_aload_n C dX9_investor_13 rfl rfl ?_
    refine gf_X9_10 C dX9_investor_14 ?_
    refine gf_X9_62 C (by decide) dX9_investor_17 ?_
    refine v_iload_n C dX9_investor_20 rfl rfl ?_
    refine lq_11 C (by decide) dX9_investor_21 h (fun h hq3 => ?_)
    refine v_astore_n C dX9_investor_22 rfl (Nat.le_of_ble_eq_true rfl) (lc1 := [some (.ref (ad G 9 0 0)), some (.int a1), some (.int a2), some (.ref (ad G 3 0 a1.toNatClampNeg))]) rfl ?_
    refine v_iload_n C dX9_investor_23 rfl rfl ?_
    refine v_tcase h (fun hc4 h => ?_) (fun hc4 h => ?_)
    · refine v_tin C dX9_investor_24 (tgt := 64) (by rw [hc4]; decide) (by rw [hc4]; decide) (by rw [hc4]; exact rfl) (by decide) ?_
      refine v_aload_n C dX9_investor_64 rfl rfl ?_
      refine gf_X9_77 C (by decide) hq3 dX9_investor_65 ?_
      exact v_iret C dX9_investor_68 h
    refine v_tcase h (fun hc7 h => ?_) (fun hc7 h => ?_)
    · refine v_tin C dX9_investor_24 (tgt := 69) (by rw [hc7]; decide) (by rw [hc7]; decide) (by rw [hc7]; exact rfl) (by decide) ?_
      refine v_aload_n C dX9_investor_69 rfl rfl ?_
      refine gf_X9_10 C dX9_investor_70 ?_
      refine v_iload_n C dX9_investor_73 rfl rfl ?_
      refine cVi C 5 0 0 (av := [.int a1]) si_X5_principalsOf lk_X9_265 (ok5 (by decide)) rfl rfl rfl rfl (st := []) rfl (Nat.le_of_ble_eq_true rfl) dX9_investor_74 h (fun _ _ hc => s_X5_principalsOf (d := d) 0 a1 (by decide) hc) (fun r5 σ6 h => ?_)
      exact v_iret C dX9_investor_77 h
    refine v_tcase h (fun hc10 h => ?_) (fun hc10 h => ?_)
    · refine v_tin C dX9_investor_24 (tgt := 78) (by rw [hc10]; decide) (by rw [hc10]; decide) (by rw [hc10]; exact rfl) (by decide) ?_
      refine v_aload_n C dX9_investor_78 rfl rfl ?_
      refine gf_X9_10 C dX9_investor_79 ?_
      refine v_iload_n C dX9_investor_82 rfl rfl ?_
      refine cVi C 5 0 0 (av := [.int a1]) si_X5_liveNotesOf lk_X9_268 (ok5 (by decide)) rfl rfl rfl rfl (st := []) rfl (Nat.le_of_ble_eq_true rfl) dX9_investor_83 h (fun _ _ hc => s_X5_liveNotesOf (d := d) 0 a1 (by decide) hc) (fun r8 σ9 h => ?_)
      exact v_iret C dX9_investor_86 h
    refine v_tcase h (fun hc13 h => ?_) (fun hc13 h => ?_)
    · refine v_tin C dX9_investor_24 (tgt := 87) (by rw [hc13]; decide) (by rw [hc13]; decide) (by rw [hc13]; exact rfl) (by decide) ?_
      refine v_aload_n C dX9_investor_87 rfl rfl ?_
      refine gf_X9_10 C dX9_investor_88 ?_
      refine v_iload_n C dX9_investor_91 rfl rfl ?_
      refine cVi C 5 0 0 (av := [.int a1]) si_X5_loansOf lk_X9_271 (ok5 (by decide)) rfl rfl rfl rfl (st := []) rfl (Nat.le_of_ble_eq_true rfl) dX9_investor_92 h (fun _ _ hc => s_X5_loansOf (d := d) 0 a1 (by decide) hc) (fun r11 σ12 h => ?_)
      exact v_iret C dX9_investor_95 h
    refine v_tcase h (fun hc14 h => ?_) (fun hc14 h => ?_)
    · refine v_tin C dX9_investor_24 (tgt := 96) (by rw [hc14]; decide) (by rw [hc14]; decide) (by rw [hc14]; exact rfl) (by decide) ?_
      refine v_aload_n C dX9_investor_96 rfl rfl ?_
      refine gf_X9_274 C (by decide) hq3 dX9_investor_97 ?_
      exact v_iret C dX9_investor_100 h
    refine v_tcase h (fun hc15 h => ?_) (fun hc15 h => ?_)
    · refine v_tin C dX9_investor_24 (tgt := 101) (by rw [hc15]; decide) (by rw [hc15]; decide) (by rw [hc15]; exact rfl) (by decide) ?_
      refine v_aload_n C dX9_investor_101 rfl rfl ?_
      refine gf_X9_277 C (by decide) hq3 dX9_investor_102 ?_
      exact v_iret C dX9_investor_105 h
    have hc4t := tne hc4 (a := 0) (by decide)
    have hc7t := tne hc7 (a := 1) (by decide)
    have hc10t := tne hc10 (a := 2) (by decide)
    have hc13t := tne hc13 (a := 3) (by decide)
    have hc14t := tne hc14 (a := 4) (by decide)
    have hc15t := tne hc15 (a := 5) (by decide)
    refine v_tout C dX9_investor_24 (tgt := 106) (by omega) (by decide) ?_
    refine v_bipush C dX9_investor_106 kb_m2 ?_
    exact v_iret C dX9_investor_108 h
  · refine v_iconst C dX9_investor_11 ki_m1 ?_
    exact v_iret C dX9_investor_12 h

def dc_X9_loan (a1 : Int32) (a2 : Int32) (σ : Sto) : Option (Int32 × Sto) :=
  (bd (dc_X5_hasLoan 0 a1 σ) fun r1 σ2 => (if r1 = 0 then some ((-1 : Int32), σ2) else (if inb a1 10 then (if a2 = (0 : Int32) then some (σ2.1 64 0 a1.toNatClampNeg, σ2) else (if a2 = (1 : Int32) then some (σ2.1 65 0 a1.toNatClampNeg, σ2) else (if a2 = (2 : Int32) then some (σ2.1 68 0 a1.toNatClampNeg, σ2) else (if a2 = (3 : Int32) then some (σ2.1 69 0 a1.toNatClampNeg, σ2) else (if a2 = (4 : Int32) then some (σ2.1 70 0 a1.toNatClampNeg, σ2) else (if a2 = (5 : Int32) then some (σ2.1 71 0 a1.toNatClampNeg, σ2) else (if a2 = (6 : Int32) then some (σ2.1 72 0 a1.toNatClampNeg, σ2) else (if a2 = (7 : Int32) then some (σ2.1 73 0 a1.toNatClampNeg, σ2) else (if a2 = (8 : Int32) then some (σ2.1 74 0 a1.toNatClampNeg, σ2) else (if a2 = (9 : Int32) then (bd (dc_X5_missing 0 a1 σ2) fun r13 σ14 => some (r13, σ14)) else (if a2 = (10 : Int32) then (bd (dc_X5_notesFor 0 a1 σ2) fun r16 σ17 => some (r16, σ17)) else (if a2 = (11 : Int32) then (bd (dc_X5_principals 0 a1 (0 : Int32) σ2) fun r19 σ20 => some (r19, σ20)) else (if a2 = (12 : Int32) then (bd (dc_X5_principals 0 a1 (1 : Int32) σ2) fun r22 σ23 => some (r22, σ23)) else some ((-2 : Int32), σ2)))))))))))))) else none)))
set_option maxRecDepth 20000 in
set_option maxHeartbeats 4000000 in
theorem s_X9_loan {G : Gm} {d : Nat} (a1 : Int32) (a2 : Int32) {σ τ : Sto} {r : Int32} (h : dc_X9_loan a1 a2 σ = some (r, τ)) : Cl G (d + 2) m_X9_loan [.ref (ad G 9 0 0), .int a1, .int a2] σ (some (.int r)) τ := by
  unfold dc_X9_loan at h
  refine Cl.mk (cc := cX9_loan) (own := RX9) (nL := 4) (ret := (some .int)) rfl rfl rfl rfl (by decide +kernel) (catA rfl) (Nat.le_of_ble_eq_true rfl) (fun X C => ?_)
  show V X G 0 0 (QE X G (some (.int r)) τ) σ 0 [some (.ref (ad G 9 0 0)), some (.int a1), some (.int a2), none] []
  refine v_aload_n C dX9_loan_0 rfl rfl ?_
  refine gf_X9_10 C dX9_loan_1 ?_
  refine v_iload_n C dX9_loan_4 rfl rfl ?_
  refine cVi C 5 0 0 (av := [.int a1]) si_X5_hasLoan lk_X9_111 (ok5 (by decide)) rfl rfl rfl rfl (st := []) rfl (Nat.le_of_ble_eq_true rfl) dX9_loan_5 h (fun _ _ hc => s_X5_hasLoan (d := (d + 1)) 0 a1 (by decide) hc) (fun r1 σ2 h => ?_)
  refine v_if_ne C dX9_loan_8 (tgt := 13) (by decide) h (fun h => ?_) (fun h => ?_)
  · refine v_aload_n C dX9_loan_13 rfl rfl ?_
    refine gf_X9_10 C dX9_loan_14 ?_
    refine gf_X9_90 C (by decide) dX9_loan_17 ?_
    refine v_iload_n C dX9_loan_20 rfl rfl ?_
    refine lq_12 C (by decide) dX9_loan_21 h (fun h hq3 => ?_)
    refine v_astore_n C dX9_loan_22 rfl (Nat.le_of_ble_eq_true rfl) (lc1 := [some (.ref (ad G 9 0 0)), some (.int a1), some (.int a2), some (.ref (ad G 4 0 a1.toNatClampNeg))]) rfl ?_
    refine v_iload_n C dX9_loan_23 rfl rfl ?_
    refine v_tcase h (fun hc4 h => ?_) (fun hc4 h => ?_)
    · refine v_tin C dX9_loan_24 (tgt := 92) (by rw [hc4]; decide) (by rw [hc4]; decide) (by rw [hc4]; exact rfl) (by decide) ?_
      refine v_aload_n C dX9_loan_92 rfl rfl ?_
      refine gf_X9_114 C (by decide) hq3 dX9_loan_93 ?_
      exact v_iret C dX9_loan_96 h
    refine v_tcase h (fun hc5 h => ?_) (fun hc5 h => ?_)
    · refine v_tin C dX9_loan_24 (tgt := 97) (by rw [hc5]; decide) (by rw [hc5]; decide) (by rw [hc5]; exact rfl) (by decide) ?_
      refine v_aload_n C dX9_loan_97 rfl rfl ?_
      refine gf_X9_280 C (by decide) hq3 dX9_loan_98 ?_
      exact v_iret C dX9_loan_101 h
    refine v_tcase h (fun hc6 h => ?_) (fun hc6 h => ?_)
    · refine v_tin C dX9_loan_24 (tgt := 102) (by rw [hc6]; decide) (by rw [hc6]; decide) (by rw [hc6]; exact rfl) (by decide) ?_
      refine v_aload_n C dX9_loan_102 rfl rfl ?_
      refine gf_X9_150 C (by decide) hq3 dX9_loan_103 ?_
      exact v_iret C dX9_loan_106 h
    refine v_tcase h (fun hc7 h => ?_) (fun hc7 h => ?_)
    · refine v_tin C dX9_loan_24 (tgt := 107) (by rw [hc7]; decide) (by rw [hc7]; decide) (by rw [hc7]; exact rfl) (by decide) ?_
      refine v_aload_n C dX9_loan_107 rfl rfl ?_
      refine gf_X9_165 C (by decide) hq3 dX9_loan_108 ?_
      exact v_iret C dX9_loan_111 h
    refine v_tcase h (fun hc8 h => ?_) (fun hc8 h => ?_)
    · refine v_tin C dX9_loan_24 (tgt := 112) (by rw [hc8]; decide) (by rw [hc8]; decide) (by rw [hc8]; exact rfl) (by decide) ?_
      refine v_aload_n C dX9_loan_112 rfl rfl ?_
      refine gf_X9_156 C (by decide) hq3 dX9_loan_113 ?_
      exact v_iret C dX9_loan_116 h
    refine v_tcase h (fun hc9 h => ?_) (fun hc9 h => ?_)
    · refine v_tin C dX9_loan_24 (tgt := 117) (by rw [hc9]; decide) (by rw [hc9]; decide) (by rw [hc9]; exact rfl) (by decide) ?_
      refine v_aload_n C dX9_loan_117 rfl rfl ?_
      refine gf_X9_159 C (by decide) hq3 dX9_loan_118 ?_
      exact v_iret C dX9_loan_121 h
    refine v_tcase h (fun hc10 h => ?_) (fun hc10 h => ?_)
    · refine v_tin C dX9_loan_24 (tgt := 122) (by rw [hc10]; decide) (by rw [hc10]; decide) (by rw [hc10]; exact rfl) (by decide) ?_
      refine v_aload_n C dX9_loan_122 rfl rfl ?_
      refine gf_X9_153 C (by decide) hq3 dX9_loan_123 ?_
      exact v_iret C dX9_loan_126 h
    refine v_tcase h (fun hc11 h => ?_) (fun hc11 h => ?_)
    · refine v_tin C dX9_loan_24 (tgt := 127) (by rw [hc11]; decide) (by rw [hc11]; decide) (by rw [hc11]; exact rfl) (by decide) ?_
      refine v_aload_n C dX9_loan_127 rfl rfl ?_
      refine gf_X9_190 C (by decide) hq3 dX9_loan_128 ?_
      exact v_iret C dX9_loan_131 h
    refine v_tcase h (fun hc12 h => ?_) (fun hc12 h => ?_)
    · refine v_tin C dX9_loan_24 (tgt := 132) (by rw [hc12]; decide) (by rw [hc12]; decide) (by rw [hc12]; exact rfl) (by decide) ?_
      refine v_aload_n C dX9_loan_132 rfl rfl ?_
      refine gf_X9_187 C (by decide) hq3 dX9_loan_133 ?_
      exact v_iret C dX9_loan_136 h
    refine v_tcase h (fun hc15 h => ?_) (fun hc15 h => ?_)
    · refine v_tin C dX9_loan_24 (tgt := 137) (by rw [hc15]; decide) (by rw [hc15]; decide) (by rw [hc15]; exact rfl) (by decide) ?_
      refine v_aload_n C dX9_loan_137 rfl rfl ?_
      refine gf_X9_10 C dX9_loan_138 ?_
      refine v_iload_n C dX9_loan_141 rfl rfl ?_
      refine cVi C 5 0 0 (av := [.int a1]) si_X5_missing lk_X9_107 (ok5 (by decide)) rfl rfl rfl rfl (st := []) rfl (Nat.le_of_ble_eq_true rfl) dX9_loan_142 h (fun _ _ hc => s_X5_missing (d := d) 0 a1 (by decide) hc) (fun r13 σ14 h => ?_)
      exact v_iret C dX9_loan_145 h
    refine v_tcase h (fun hc18 h => ?_) (fun hc18 h => ?_)
    · refine v_tin C dX9_loan_24 (tgt := 146) (by rw [hc18]; decide) (by rw [hc18]; decide) (by rw [hc18]; exact rfl) (by decide) ?_
      refine v_aload_n C dX9_loan_146 rfl rfl ?_
      refine gf_X9_10 C dX9_loan_147 ?_
      refine v_iload_n C dX9_loan_150 rfl rfl ?_
      refine cVi C 5 0 0 (av := [.int a1]) si_X5_notesFor lk_X9_283 (ok5 (by decide)) rfl rfl rfl rfl (st := []) rfl (Nat.le_of_ble_eq_true rfl) dX9_loan_151 h (fun _ _ hc => s_X5_notesFor (d := (d + 1)) 0 a1 (by decide) hc) (fun r16 σ17 h => ?_)
      exact v_iret C dX9_loan_154 h
    refine v_tcase h (fun hc21 h => ?_) (fun hc21 h => ?_)
    · refine v_tin C dX9_loan_24 (tgt := 155) (by rw [hc21]; decide) (by rw [hc21]; decide) (by rw [hc21]; exact rfl) (by decide) ?_
      refine v_aload_n C dX9_loan_155 rfl rfl ?_
      refine gf_X9_10 C dX9_loan_156 ?_
      refine v_iload_n C dX9_loan_159 rfl rfl ?_
      refine v_iconst C dX9_loan_160 ki_0 ?_
      refine cVi C 5 0 0 (av := [.int a1, .int (0 : Int32)]) si_X5_principals lk_X9_117 (ok5 (by decide)) rfl rfl rfl rfl (st := []) rfl (Nat.le_of_ble_eq_true rfl) dX9_loan_161 h (fun _ _ hc => s_X5_principals (d := (d + 1)) 0 a1 (0 : Int32) (by decide) hc) (fun r19 σ20 h => ?_)
      exact v_iret C dX9_loan_164 h
    refine v_tcase h (fun hc24 h => ?_) (fun hc24 h => ?_)
    · refine v_tin C dX9_loan_24 (tgt := 165) (by rw [hc24]; decide) (by rw [hc24]; decide) (by rw [hc24]; exact rfl) (by decide) ?_
      refine v_aload_n C dX9_loan_165 rfl rfl ?_
      refine gf_X9_10 C dX9_loan_166 ?_
      refine v_iload_n C dX9_loan_169 rfl rfl ?_
      refine v_iconst C dX9_loan_170 ki_1 ?_
      refine cVi C 5 0 0 (av := [.int a1, .int (1 : Int32)]) si_X5_principals lk_X9_117 (ok5 (by decide)) rfl rfl rfl rfl (st := []) rfl (Nat.le_of_ble_eq_true rfl) dX9_loan_171 h (fun _ _ hc => s_X5_principals (d := (d + 1)) 0 a1 (1 : Int32) (by decide) hc) (fun r22 σ23 h => ?_)
      exact v_iret C dX9_loan_174 h
    have hc4t := tne hc4 (a := 0) (by decide)
    have hc5t := tne hc5 (a := 1) (by decide)
    have hc6t := tne hc6 (a := 2) (by decide)
    have hc7t := tne hc7 (a := 3) (by decide)
    have hc8t := tne hc8 (a := 4) (by decide)
    have hc9t := tne hc9 (a := 5) (by decide)
    have hc10t := tne hc10 (a := 6) (by decide)
    have hc11t := tne hc11 (a := 7) (by decide)
    have hc12t := tne hc12 (a := 8) (by decide)
    have hc15t := tne hc15 (a := 9) (by decide)
    have hc18t := tne hc18 (a := 10) (by decide)
    have hc21t := tne hc21 (a := 11) (by decide)
    have hc24t := tne hc24 (a := 12) (by decide)
    refine v_tout C dX9_loan_24 (tgt := 175) (by omega) (by decide) ?_
    refine v_bipush C dX9_loan_175 kb_m2 ?_
    exact v_iret C dX9_loan_177 h
  · refine v_iconst C dX9_loan_11 ki_m1 ?_
    exact v_iret C dX9_loan_12 h

def dc_X9_note (a1 : Int32) (a2 : Int32) (σ : Sto) : Option (Int32 × Sto) :=
  (bd (dc_X5_hasNote 0 a1 σ) fun r1 σ2 => (if r1 = 0 then some ((-1 : Int32), σ2) else (if inb a1 60 then (if a2 = (0 : Int32) then some (σ2.1 96 0 a1.toNatClampNeg, σ2) else (if a2 = (1 : Int32) then some (σ2.1 97 0 a1.toNatClampNeg, σ2) else (if a2 = (2 : Int32) then some (σ2.1 98 0 a1.toNatClampNeg, σ2) else (if a2 = (3 : Int32) then some (σ2.1 99 0 a1.toNatClampNeg, σ2) else (if a2 = (4 : Int32) then some (σ2.1 100 0 a1.toNatClampNeg, σ2) else (if a2 = (5 : Int32) then some (σ2.1 101 0 a1.toNatClampNeg, σ2) else (if a2 = (6 : Int32) then some (σ2.1 102 0 a1.toNatClampNeg, σ2) else some ((-2 : Int32), σ2)))))))) else none)))
set_option maxRecDepth 20000 in
set_option maxHeartbeats 4000000 in
theorem s_X9_note {G : Gm} {d : Nat} (a1 : Int32) (a2 : Int32) {σ τ : Sto} {r : Int32} (h : dc_X9_note a1 a2 σ = some (r, τ)) : Cl G (d + 1) m_X9_note [.ref (ad G 9 0 0), .int a1, .int a2] σ (some (.int r)) τ := by
  unfold dc_X9_note at h
  refine Cl.mk (cc := cX9_note) (own := RX9) (nL := 4) (ret := (some .int)) rfl rfl rfl rfl (by decide +kernel) (catA rfl) (Nat.le_of_ble_eq_true rfl) (fun X C => ?_)
  show V X G 0 0 (QE X G (some (.int r)) τ) σ 0 [some (.ref (ad G 9 0 0)), some (.int a1), some (.int a2), none] []
  refine v_aload_n C dX9_note_0 rfl rfl ?_
  refine gf_X9_10 C dX9_note_1 ?_
  refine v_iload_n C dX9_note_4 rfl rfl ?_
  refine cVi C 5 0 0 (av := [.int a1]) si_X5_hasNote lk_X9_193 (ok5 (by decide)) rfl rfl rfl rfl (st := []) rfl (Nat.le_of_ble_eq_true rfl) dX9_note_5 h (fun _ _ hc => s_X5_hasNote (d := d) 0 a1 (by decide) hc) (fun r1 σ2 h => ?_)
  refine v_if_ne C dX9_note_8 (tgt := 13) (by decide) h (fun h => ?_) (fun h => ?_)
  · refine v_aload_n C dX9_note_13 rfl rfl ?_
    refine gf_X9_10 C dX9_note_14 ?_
    refine gf_X9_196 C (by decide) dX9_note_17 ?_
    refine v_iload_n C dX9_note_20 rfl rfl ?_
    refine lq_13 C (by decide) dX9_note_21 h (fun h hq3 => ?_)
    refine v_astore_n C dX9_note_22 rfl (Nat.le_of_ble_eq_true rfl) (lc1 := [some (.ref (ad G 9 0 0)), some (.int a1), some (.int a2), some (.ref (ad G 6 0 a1.toNatClampNeg))]) rfl ?_
    refine v_iload_n C dX9_note_23 rfl rfl ?_
    refine v_tcase h (fun hc4 h => ?_) (fun hc4 h => ?_)
    · refine v_tin C dX9_note_24 (tgt := 68) (by rw [hc4]; decide) (by rw [hc4]; decide) (by rw [hc4]; exact rfl) (by decide) ?_
      refine v_aload_n C dX9_note_68 rfl rfl ?_
      refine gf_X9_200 C (by decide) hq3 dX9_note_69 ?_
      exact v_iret C dX9_note_72 h
    refine v_tcase h (fun hc5 h => ?_) (fun hc5 h => ?_)
    · refine v_tin C dX9_note_24 (tgt := 73) (by rw [hc5]; decide) (by rw [hc5]; decide) (by rw [hc5]; exact rfl) (by decide) ?_
      refine v_aload_n C dX9_note_73 rfl rfl ?_
      refine gf_X9_205 C (by decide) hq3 dX9_note_74 ?_
      exact v_iret C dX9_note_77 h
    refine v_tcase h (fun hc6 h => ?_) (fun hc6 h => ?_)
    · refine v_tin C dX9_note_24 (tgt := 78) (by rw [hc6]; decide) (by rw [hc6]; decide) (by rw [hc6]; exact rfl) (by decide) ?_
      refine v_aload_n C dX9_note_78 rfl rfl ?_
      refine gf_X9_286 C (by decide) hq3 dX9_note_79 ?_
      exact v_iret C dX9_note_82 h
    refine v_tcase h (fun hc7 h => ?_) (fun hc7 h => ?_)
    · refine v_tin C dX9_note_24 (tgt := 83) (by rw [hc7]; decide) (by rw [hc7]; decide) (by rw [hc7]; exact rfl) (by decide) ?_
      refine v_aload_n C dX9_note_83 rfl rfl ?_
      refine gf_X9_215 C (by decide) hq3 dX9_note_84 ?_
      exact v_iret C dX9_note_87 h
    refine v_tcase h (fun hc8 h => ?_) (fun hc8 h => ?_)
    · refine v_tin C dX9_note_24 (tgt := 88) (by rw [hc8]; decide) (by rw [hc8]; decide) (by rw [hc8]; exact rfl) (by decide) ?_
      refine v_aload_n C dX9_note_88 rfl rfl ?_
      refine gf_X9_287 C (by decide) hq3 dX9_note_89 ?_
      exact v_iret C dX9_note_92 h
    refine v_tcase h (fun hc9 h => ?_) (fun hc9 h => ?_)
    · refine v_tin C dX9_note_24 (tgt := 93) (by rw [hc9]; decide) (by rw [hc9]; decide) (by rw [hc9]; exact rfl) (by decide) ?_
      refine v_aload_n C dX9_note_93 rfl rfl ?_
      refine gf_X9_290 C (by decide) hq3 dX9_note_94 ?_
      exact v_iret C dX9_note_97 h
    refine v_tcase h (fun hc10 h => ?_) (fun hc10 h => ?_)
    · refine v_tin C dX9_note_24 (tgt := 98) (by rw [hc10]; decide) (by rw [hc10]; decide) (by rw [hc10]; exact rfl) (by decide) ?_
      refine v_aload_n C dX9_note_98 rfl rfl ?_
      refine gf_X9_291 C (by decide) hq3 dX9_note_99 ?_
      exact v_iret C dX9_note_102 h
    have hc4t := tne hc4 (a := 0) (by decide)
    have hc5t := tne hc5 (a := 1) (by decide)
    have hc6t := tne hc6 (a := 2) (by decide)
    have hc7t := tne hc7 (a := 3) (by decide)
    have hc8t := tne hc8 (a := 4) (by decide)
    have hc9t := tne hc9 (a := 5) (by decide)
    have hc10t := tne hc10 (a := 6) (by decide)
    refine v_tout C dX9_note_24 (tgt := 103) (by omega) (by decide) ?_
    refine v_bipush C dX9_note_103 kb_m2 ?_
    exact v_iret C dX9_note_105 h
  · refine v_iconst C dX9_note_11 ki_m1 ?_
    exact v_iret C dX9_note_12 h

def dc_X9_split (a1 : Int32) (a2 : Int32) (a3 : Int32) (σ : Sto) : Option (Int32 × Sto) :=
  (bd (dc_X5_hasLoan 0 a1 σ) fun r1 σ2 => (if r1 = 0 then some ((-1 : Int32), σ2) else (bd (dc_X9_isPayment a2 σ2) fun r3 σ4 => (if r3 = 0 then some ((-2 : Int32), σ4) else (if a3 < 0 then some ((-2 : Int32), σ4) else (if a3 ≤ (5 : Int32) then (bd (dc_X7_areOf 0 a1 a2 σ4) fun r5 σ6 => (if r5 = 0 then some ((-4 : Int32), σ6) else (if a3 = (0 : Int32) then some (σ6.1 112 0 0, σ6) else (if a3 = (1 : Int32) then some (σ6.1 113 0 0, σ6) else (if a3 = (2 : Int32) then some (σ6.1 114 0 0, σ6) else (if a3 = (3 : Int32) then some (σ6.1 115 0 0, σ6) else (if a3 = (4 : Int32) then some (σ6.1 116 0 0, σ6) else some (σ6.1 117 0 0, σ6)))))))) else some ((-2 : Int32), σ4)))))))
set_option maxRecDepth 20000 in
set_option maxHeartbeats 4000000 in
theorem s_X9_split {G : Gm} {d : Nat} (a1 : Int32) (a2 : Int32) (a3 : Int32) {σ τ : Sto} {r : Int32} (h : dc_X9_split a1 a2 a3 σ = some (r, τ)) : Cl G (d + 3) m_X9_split [.ref (ad G 9 0 0), .int a1, .int a2, .int a3] σ (some (.int r)) τ := by
  unfold dc_X9_split at h
  refine Cl.mk (cc := cX9_split) (own := RX9) (nL := 4) (ret := (some .int)) rfl rfl rfl rfl (by decide +kernel) (catA rfl) (Nat.le_of_ble_eq_true rfl) (fun X C => ?_)
  show V X G 0 0 (QE X G (some (.int r)) τ) σ 0 [some (.ref (ad G 9 0 0)), some (.int a1), some (.int a2), some (.int a3)] []
  refine v_aload_n C dX9_split_0 rfl rfl ?_
  refine gf_X9_10 C dX9_split_1 ?_
  refine v_iload_n C dX9_split_4 rfl rfl ?_
  refine cVi C 5 0 0 (av := [.int a1]) si_X5_hasLoan lk_X9_111 (ok5 (by decide)) rfl rfl rfl rfl (st := []) rfl (Nat.le_of_ble_eq_true rfl) dX9_split_5 h (fun _ _ hc => s_X5_hasLoan (d := (d + 2)) 0 a1 (by decide) hc) (fun r1 σ2 h => ?_)
  refine v_if_ne C dX9_split_8 (tgt := 13) (by decide) h (fun h => ?_) (fun h => ?_)
  · refine v_iload_n C dX9_split_13 rfl rfl ?_
    refine cSi C (av := [.int a2]) si_X9_isPayment lk_X9_135 rfl rfl (st := []) rfl (Nat.le_of_ble_eq_true rfl) dX9_split_14 h (fun _ _ hc => s_X9_isPayment (d := (d + 2)) a2  hc) (fun r3 σ4 h => ?_)
    refine v_if_eq C dX9_split_17 (tgt := 29) (by decide) h (fun h => ?_) (fun h => ?_)
    · refine v_bipush C dX9_split_29 kb_m2 ?_
      exact v_iret C dX9_split_31 h
    · refine v_iload_n C dX9_split_20 rfl rfl ?_
      refine v_if_lt C dX9_split_21 (tgt := 29) (by decide) h (fun h => ?_) (fun h => ?_)
      · refine v_bipush C dX9_split_29 kb_m2 ?_
        exact v_iret C dX9_split_31 h
      · refine v_iload_n C dX9_split_24 rfl rfl ?_
        refine v_iconst C dX9_split_25 ki_5 ?_
        refine v_icmp_le C dX9_split_26 (tgt := 32) (by decide) h (fun h => ?_) (fun h => ?_)
        · refine v_aload_n C dX9_split_32 rfl rfl ?_
          refine gf_X9_43 C dX9_split_33 ?_
          refine v_aload_n C dX9_split_36 rfl rfl ?_
          refine gf_X9_10 C dX9_split_37 ?_
          refine v_iload_n C dX9_split_40 rfl rfl ?_
          refine v_iload_n C dX9_split_41 rfl rfl ?_
          refine cVi C 7 0 0 (av := [.ref (ad G 5 0 0), .int a1, .int a2]) si_X7_areOf lk_X9_138 (ok7) rfl rfl rfl rfl (st := []) rfl (Nat.le_of_ble_eq_true rfl) dX9_split_42 h (fun _ _ hc => s_X7_areOf (d := d) 0 a1 a2 (by decide) hc) (fun r5 σ6 h => ?_)
          refine v_if_ne C dX9_split_45 (tgt := 51) (by decide) h (fun h => ?_) (fun h => ?_)
          · refine v_iload_n C dX9_split_51 rfl rfl ?_
            refine v_tcase h (fun hc7 h => ?_) (fun hc7 h => ?_)
            · refine v_tin C dX9_split_52 (tgt := 88) (by rw [hc7]; decide) (by rw [hc7]; decide) (by rw [hc7]; exact rfl) (by decide) ?_
              refine v_aload_n C dX9_split_88 rfl rfl ?_
              refine gf_X9_43 C dX9_split_89 ?_
              refine gf_X9_294 C dX9_split_92 ?_
              exact v_iret C dX9_split_95 h
            refine v_tcase h (fun hc8 h => ?_) (fun hc8 h => ?_)
            · refine v_tin C dX9_split_52 (tgt := 96) (by rw [hc8]; decide) (by rw [hc8]; decide) (by rw [hc8]; exact rfl) (by decide) ?_
              refine v_aload_n C dX9_split_96 rfl rfl ?_
              refine gf_X9_43 C dX9_split_97 ?_
              refine gf_X9_297 C dX9_split_100 ?_
              exact v_iret C dX9_split_103 h
            refine v_tcase h (fun hc9 h => ?_) (fun hc9 h => ?_)
            · refine v_tin C dX9_split_52 (tgt := 104) (by rw [hc9]; decide) (by rw [hc9]; decide) (by rw [hc9]; exact rfl) (by decide) ?_
              refine v_aload_n C dX9_split_104 rfl rfl ?_
              refine gf_X9_43 C dX9_split_105 ?_
              refine gf_X9_298 C dX9_split_108 ?_
              exact v_iret C dX9_split_111 h
            refine v_tcase h (fun hc10 h => ?_) (fun hc10 h => ?_)
            · refine v_tin C dX9_split_52 (tgt := 112) (by rw [hc10]; decide) (by rw [hc10]; decide) (by rw [hc10]; exact rfl) (by decide) ?_
              refine v_aload_n C dX9_split_112 rfl rfl ?_
              refine gf_X9_43 C dX9_split_113 ?_
              refine gf_X9_301 C dX9_split_116 ?_
              exact v_iret C dX9_split_119 h
            refine v_tcase h (fun hc11 h => ?_) (fun hc11 h => ?_)
            · refine v_tin C dX9_split_52 (tgt := 120) (by rw [hc11]; decide) (by rw [hc11]; decide) (by rw [hc11]; exact rfl) (by decide) ?_
              refine v_aload_n C dX9_split_120 rfl rfl ?_
              refine gf_X9_43 C dX9_split_121 ?_
              refine gf_X9_302 C dX9_split_124 ?_
              exact v_iret C dX9_split_127 h
            have hc7t := tne hc7 (a := 0) (by decide)
            have hc8t := tne hc8 (a := 1) (by decide)
            have hc9t := tne hc9 (a := 2) (by decide)
            have hc10t := tne hc10 (a := 3) (by decide)
            have hc11t := tne hc11 (a := 4) (by decide)
            refine v_tout C dX9_split_52 (tgt := 128) (by omega) (by decide) ?_
            refine v_aload_n C dX9_split_128 rfl rfl ?_
            refine gf_X9_43 C dX9_split_129 ?_
            refine gf_X9_305 C dX9_split_132 ?_
            exact v_iret C dX9_split_135 h
          · refine v_bipush C dX9_split_48 kb_m4 ?_
            exact v_iret C dX9_split_50 h
        · refine v_bipush C dX9_split_29 kb_m2 ?_
          exact v_iret C dX9_split_31 h
  · refine v_iconst C dX9_split_11 ki_m1 ?_
    exact v_iret C dX9_split_12 h

def dc_X9_toRepay (a1 : Int32) (σ : Sto) : Option (Int32 × Sto) :=
  (bd (dc_X5_hasLoan 0 a1 σ) fun r1 σ2 => (if r1 = 0 then some ((-1 : Int32), σ2) else (bd (dc_X5_runs 0 a1 σ2) fun r3 σ4 => (if r3 = 0 then some ((-4 : Int32), σ4) else (if inb a1 10 then (bd (dc_X9_feeOf (σ4.1 73 0 a1.toNatClampNeg) σ4) fun r6 σ7 => (if 0 < ((1000 : Int32) - r6) then (if ¬ (((1000 : Int32) - r6).toInt64) = 0 then some ((((((((σ4.1 68 0 a1.toNatClampNeg).toInt64) + ((σ4.1 70 0 a1.toNatClampNeg).toInt64)) - (1 : Int64)) * (1000 : Int64)) / (((1000 : Int32) - r6).toInt64)).toInt32) + (1 : Int32), σ7) else none) else some ((-4 : Int32), σ7))) else none)))))
set_option maxRecDepth 20000 in
set_option maxHeartbeats 4000000 in
theorem s_X9_toRepay {G : Gm} {d : Nat} (a1 : Int32) {σ τ : Sto} {r : Int32} (h : dc_X9_toRepay a1 σ = some (r, τ)) : Cl G (d + 2) m_X9_toRepay [.ref (ad G 9 0 0), .int a1] σ (some (.int r)) τ := by
  unfold dc_X9_toRepay at h
  refine Cl.mk (cc := cX9_toRepay) (own := RX9) (nL := 6) (ret := (some .int)) rfl rfl rfl rfl (by decide +kernel) (catA rfl) (Nat.le_of_ble_eq_true rfl) (fun X C => ?_)
  show V X G 0 0 (QE X G (some (.int r)) τ) σ 0 [some (.ref (ad G 9 0 0)), some (.int a1), none, none, none, none] []
  refine v_aload_n C dX9_toRepay_0 rfl rfl ?_
  refine gf_X9_10 C dX9_toRepay_1 ?_
  refine v_iload_n C dX9_toRepay_4 rfl rfl ?_
  refine cVi C 5 0 0 (av := [.int a1]) si_X5_hasLoan lk_X9_111 (ok5 (by decide)) rfl rfl rfl rfl (st := []) rfl (Nat.le_of_ble_eq_true rfl) dX9_toRepay_5 h (fun _ _ hc => s_X5_hasLoan (d := (d + 1)) 0 a1 (by decide) hc) (fun r1 σ2 h => ?_)
  refine v_if_ne C dX9_toRepay_8 (tgt := 13) (by decide) h (fun h => ?_) (fun h => ?_)
  · refine v_aload_n C dX9_toRepay_13 rfl rfl ?_
    refine gf_X9_10 C dX9_toRepay_14 ?_
    refine v_iload_n C dX9_toRepay_17 rfl rfl ?_
    refine cVi C 5 0 0 (av := [.int a1]) si_X5_runs lk_X9_171 (ok5 (by decide)) rfl rfl rfl rfl (st := []) rfl (Nat.le_of_ble_eq_true rfl) dX9_toRepay_18 h (fun _ _ hc => s_X5_runs (d := d) 0 a1 (by decide) hc) (fun r3 σ4 h => ?_)
    refine v_if_ne C dX9_toRepay_21 (tgt := 27) (by decide) h (fun h => ?_) (fun h => ?_)
    · refine v_aload_n C dX9_toRepay_27 rfl rfl ?_
      refine gf_X9_10 C dX9_toRepay_28 ?_
      refine gf_X9_90 C (by decide) dX9_toRepay_31 ?_
      refine v_iload_n C dX9_toRepay_34 rfl rfl ?_
      refine lq_12 C (by decide) dX9_toRepay_35 h (fun h hq5 => ?_)
      refine v_astore_n C dX9_toRepay_36 rfl (Nat.le_of_ble_eq_true rfl) (lc1 := [some (.ref (ad G 9 0 0)), some (.int a1), some (.ref (ad G 4 0 a1.toNatClampNeg)), none, none, none]) rfl ?_
      refine v_aload_n C dX9_toRepay_37 rfl rfl ?_
      refine gf_X9_150 C (by decide) hq5 dX9_toRepay_38 ?_
      refine v_i2l C dX9_toRepay_41 ?_
      refine v_aload_n C dX9_toRepay_42 rfl rfl ?_
      refine gf_X9_156 C (by decide) hq5 dX9_toRepay_43 ?_
      refine v_i2l C dX9_toRepay_46 ?_
      refine v_ladd C dX9_toRepay_47 ?_
      refine v_lstore_n C dX9_toRepay_48 rfl (Nat.le_of_ble_eq_true rfl) (lc1 := [some (.ref (ad G 9 0 0)), some (.int a1), some (.ref (ad G 4 0 a1.toNatClampNeg)), some (.long (((σ4.1 68 0 a1.toNatClampNeg).toInt64) + ((σ4.1 70 0 a1.toNatClampNeg).toInt64))), none, none]) rfl ?_
      refine v_sipush C dX9_toRepay_49 ks_1000 ?_
      refine v_aload_n C dX9_toRepay_52 rfl rfl ?_
      refine gf_X9_190 C (by decide) hq5 dX9_toRepay_53 ?_
      refine cSi C (av := [.int (σ4.1 73 0 a1.toNatClampNeg)]) si_X9_feeOf lk_X9_308 rfl rfl (st := [.int (1000 : Int32)]) rfl (Nat.le_of_ble_eq_true rfl) dX9_toRepay_56 h (fun _ _ hc => s_X9_feeOf (d := d) (σ4.1 73 0 a1.toNatClampNeg)  hc) (fun r6 σ7 h => ?_)
      refine v_isub C dX9_toRepay_59 ?_
      refine v_istore C dX9_toRepay_60 (Nat.le_of_ble_eq_true rfl) (lc1 := [some (.ref (ad G 9 0 0)), some (.int a1), some (.ref (ad G 4 0 a1.toNatClampNeg)), some (.long (((σ4.1 68 0 a1.toNatClampNeg).toInt64) + ((σ4.1 70 0 a1.toNatClampNeg).toInt64))), none, some (.int ((1000 : Int32) - r6))]) rfl ?_
      refine v_iload C dX9_toRepay_62 rfl ?_
      refine v_if_gt C dX9_toRepay_64 (tgt := 70) (by decide) h (fun h => ?_) (fun h => ?_)
      · refine v_lload_n C dX9_toRepay_70 rfl rfl ?_
        refine v_lconst C dX9_toRepay_71 kl_1 ?_
        refine v_lsub C dX9_toRepay_72 ?_
        refine v_ldc2 C dX9_toRepay_73 lk_X9_311 ?_
        refine v_lmul C dX9_toRepay_76 ?_
        refine v_iload C dX9_toRepay_77 rfl ?_
        refine v_i2l C dX9_toRepay_79 ?_
        refine v_ldiv C dX9_toRepay_80 (if_some h).1 ?_
        have h := (if_some h).2
        refine v_l2i C dX9_toRepay_81 ?_
        refine v_iconst C dX9_toRepay_82 ki_1 ?_
        refine v_iadd C dX9_toRepay_83 ?_
        exact v_iret C dX9_toRepay_84 h
      · refine v_bipush C dX9_toRepay_67 kb_m4 ?_
        exact v_iret C dX9_toRepay_69 h
    · refine v_bipush C dX9_toRepay_24 kb_m4 ?_
      exact v_iret C dX9_toRepay_26 h
  · refine v_iconst C dX9_toRepay_11 ki_m1 ?_
    exact v_iret C dX9_toRepay_12 h

def dc_X9_servicer (a1 : Int32) (a2 : Int32) (σ : Sto) : Option (Int32 × Sto) :=
  (bd (dc_X9_isServicer a1 σ) fun r1 σ2 => (if r1 = 0 then some ((-1 : Int32), σ2) else (if a2 = (0 : Int32) then (if inb a1 4 then some (feeI a1.toNatClampNeg, σ2) else none) else (if a2 = (1 : Int32) then (if inb a1 4 then some (σ2.1 224 0 a1.toNatClampNeg, σ2) else none) else (if a2 = (2 : Int32) then (bd (dc_X5_loansServedBy 0 a1 σ2) fun r5 σ6 => some (r5, σ6)) else some ((-2 : Int32), σ2))))))
set_option maxRecDepth 20000 in
set_option maxHeartbeats 4000000 in
theorem s_X9_servicer {G : Gm} {d : Nat} (a1 : Int32) (a2 : Int32) {σ τ : Sto} {r : Int32} (h : dc_X9_servicer a1 a2 σ = some (r, τ)) : Cl G (d + 3) m_X9_servicer [.ref (ad G 9 0 0), .int a1, .int a2] σ (some (.int r)) τ := by
  unfold dc_X9_servicer at h
  refine Cl.mk (cc := cX9_servicer) (own := RX9) (nL := 3) (ret := (some .int)) rfl rfl rfl rfl (by decide +kernel) (catA rfl) (Nat.le_of_ble_eq_true rfl) (fun X C => ?_)
  show V X G 0 0 (QE X G (some (.int r)) τ) σ 0 [some (.ref (ad G 9 0 0)), some (.int a1), some (.int a2)] []
  refine v_iload_n C dX9_servicer_0 rfl rfl ?_
  refine cSi C (av := [.int a1]) si_X9_isServicer lk_X9_184 rfl rfl (st := []) rfl (Nat.le_of_ble_eq_true rfl) dX9_servicer_1 h (fun _ _ hc => s_X9_isServicer (d := (d + 2)) a1  hc) (fun r1 σ2 h => ?_)
  refine v_if_ne C dX9_servicer_4 (tgt := 9) (by decide) h (fun h => ?_) (fun h => ?_)
  · refine v_iload_n C dX9_servicer_9 rfl rfl ?_
    refine v_tcase h (fun hc3 h => ?_) (fun hc3 h => ?_)
    · refine v_tin C dX9_servicer_10 (tgt := 36) (by rw [hc3]; decide) (by rw [hc3]; decide) (by rw [hc3]; exact rfl) (by decide) ?_
      refine v_fees C lk_X9_313 dX9_servicer_36 ?_
      refine v_iload_n C dX9_servicer_39 rfl rfl ?_
      refine v_feeld C dX9_servicer_40 h (fun h => ?_)
      exact v_iret C dX9_servicer_41 h
    refine v_tcase h (fun hc4 h => ?_) (fun hc4 h => ?_)
    · refine v_tin C dX9_servicer_10 (tgt := 42) (by rw [hc4]; decide) (by rw [hc4]; decide) (by rw [hc4]; exact rfl) (by decide) ?_
      refine v_aload_n C dX9_servicer_42 rfl rfl ?_
      refine gf_X9_10 C dX9_servicer_43 ?_
      refine gf_X9_317 C (by decide) dX9_servicer_46 ?_
      refine v_iload_n C dX9_servicer_49 rfl rfl ?_
      refine ld_14 C (by decide) dX9_servicer_50 h (fun h => ?_)
      exact v_iret C dX9_servicer_51 h
    refine v_tcase h (fun hc7 h => ?_) (fun hc7 h => ?_)
    · refine v_tin C dX9_servicer_10 (tgt := 52) (by rw [hc7]; decide) (by rw [hc7]; decide) (by rw [hc7]; exact rfl) (by decide) ?_
      refine v_aload_n C dX9_servicer_52 rfl rfl ?_
      refine gf_X9_10 C dX9_servicer_53 ?_
      refine v_iload_n C dX9_servicer_56 rfl rfl ?_
      refine cVi C 5 0 0 (av := [.int a1]) si_X5_loansServedBy lk_X9_320 (ok5 (by decide)) rfl rfl rfl rfl (st := []) rfl (Nat.le_of_ble_eq_true rfl) dX9_servicer_57 h (fun _ _ hc => s_X5_loansServedBy (d := d) 0 a1 (by decide) hc) (fun r5 σ6 h => ?_)
      exact v_iret C dX9_servicer_60 h
    have hc3t := tne hc3 (a := 0) (by decide)
    have hc4t := tne hc4 (a := 1) (by decide)
    have hc7t := tne hc7 (a := 2) (by decide)
    refine v_tout C dX9_servicer_10 (tgt := 61) (by omega) (by decide) ?_
    refine v_bipush C dX9_servicer_61 kb_m2 ?_
    exact v_iret C dX9_servicer_63 h
  · refine v_iconst C dX9_servicer_7 ki_m1 ?_
    exact v_iret C dX9_servicer_8 h

def dc_X9_count (a1 : Int32) (σ : Sto) : Option (Int32 × Sto) :=
  (if a1 < (3 : Int32) then (if a1 = (0 : Int32) then some (σ.1 87 0 0, σ) else (if a1 = (1 : Int32) then some (σ.1 84 0 0, σ) else (if a1 = (2 : Int32) then some (σ.1 85 0 0, σ) else (if a1 = (3 : Int32) then some ((-2 : Int32), σ) else (if a1 = (4 : Int32) then some ((-2 : Int32), σ) else (if a1 = (5 : Int32) then some ((-2 : Int32), σ) else (if a1 = (6 : Int32) then some ((-2 : Int32), σ) else (if a1 = (7 : Int32) then some ((-2 : Int32), σ) else (if a1 = (8 : Int32) then some (σ.1 86 0 0, σ) else (if a1 = (9 : Int32) then some (σ.1 88 0 0, σ) else (if a1 = (10 : Int32) then some (σ.1 89 0 0, σ) else (if a1 = (11 : Int32) then (bd (dc_X5_allPrincipals 0 σ) fun r12 σ13 => some (r12, σ13)) else (if a1 = (12 : Int32) then (bd (dc_X5_allInterestDue 0 σ) fun r15 σ16 => some (r15, σ16)) else (if a1 = (13 : Int32) then (bd (dc_X5_allLosses 0 σ) fun r18 σ19 => some (r18, σ19)) else (if a1 = (14 : Int32) then (bd (dc_X5_loansInArrears 0 σ) fun r21 σ22 => some (r21, σ22)) else (if a1 = (15 : Int32) then (bd (dc_X5_ordersOfSwitches 0 σ) fun r24 σ25 => some (r24, σ25)) else (if a1 = (16 : Int32) then some (σ.1 33 0 0, σ) else (if a1 = (17 : Int32) then some (σ.1 17 0 0, σ) else some ((-2 : Int32), σ))))))))))))))))))) else (if (7 : Int32) < a1 then (if a1 = (0 : Int32) then some (σ.1 87 0 0, σ) else (if a1 = (1 : Int32) then some (σ.1 84 0 0, σ) else (if a1 = (2 : Int32) then some (σ.1 85 0 0, σ) else (if a1 = (3 : Int32) then some ((-2 : Int32), σ) else (if a1 = (4 : Int32) then some ((-2 : Int32), σ) else (if a1 = (5 : Int32) then some ((-2 : Int32), σ) else (if a1 = (6 : Int32) then some ((-2 : Int32), σ) else (if a1 = (7 : Int32) then some ((-2 : Int32), σ) else (if a1 = (8 : Int32) then some (σ.1 86 0 0, σ) else (if a1 = (9 : Int32) then some (σ.1 88 0 0, σ) else (if a1 = (10 : Int32) then some (σ.1 89 0 0, σ) else (if a1 = (11 : Int32) then (bd (dc_X5_allPrincipals 0 σ) fun r40 σ41 => some (r40, σ41)) else (if a1 = (12 : Int32) then (bd (dc_X5_allInterestDue 0 σ) fun r43 σ44 => some (r43, σ44)) else (if a1 = (13 : Int32) then (bd (dc_X5_allLosses 0 σ) fun r46 σ47 => some (r46, σ47)) else (if a1 = (14 : Int32) then (bd (dc_X5_loansInArrears 0 σ) fun r49 σ50 => some (r49, σ50)) else (if a1 = (15 : Int32) then (bd (dc_X5_ordersOfSwitches 0 σ) fun r52 σ53 => some (r52, σ53)) else (if a1 = (16 : Int32) then some (σ.1 33 0 0, σ) else (if a1 = (17 : Int32) then some (σ.1 17 0 0, σ) else some ((-2 : Int32), σ))))))))))))))))))) else (bd (dc_X5_loansInState 0 (a1 - (3 : Int32)) σ) fun r57 σ58 => some (r57, σ58))))
set_option maxRecDepth 20000 in
set_option maxHeartbeats 4000000 in
theorem s_X9_count {G : Gm} {d : Nat} (a1 : Int32) {σ τ : Sto} {r : Int32} (h : dc_X9_count a1 σ = some (r, τ)) : Cl G (d + 1) m_X9_count [.ref (ad G 9 0 0), .int a1] σ (some (.int r)) τ := by
  unfold dc_X9_count at h
  refine Cl.mk (cc := cX9_count) (own := RX9) (nL := 2) (ret := (some .int)) rfl rfl rfl rfl (by decide +kernel) (catA rfl) (Nat.le_of_ble_eq_true rfl) (fun X C => ?_)
  show V X G 0 0 (QE X G (some (.int r)) τ) σ 0 [some (.ref (ad G 9 0 0)), some (.int a1)] []
  refine v_iload_n C dX9_count_0 rfl rfl ?_
  refine v_iconst C dX9_count_1 ki_3 ?_
  refine v_icmp_lt C dX9_count_2 (tgt := 22) (by decide) h (fun h => ?_) (fun h => ?_)
  · refine v_iload_n C dX9_count_22 rfl rfl ?_
    refine v_tcase h (fun hc1 h => ?_) (fun hc1 h => ?_)
    · refine v_tin C dX9_count_23 (tgt := 108) (by rw [hc1]; decide) (by rw [hc1]; decide) (by rw [hc1]; exact rfl) (by decide) ?_
      refine v_aload_n C dX9_count_108 rfl rfl ?_
      refine gf_X9_10 C dX9_count_109 ?_
      refine gf_X9_216 C (by decide) dX9_count_112 ?_
      exact v_iret C dX9_count_115 h
    refine v_tcase h (fun hc2 h => ?_) (fun hc2 h => ?_)
    · refine v_tin C dX9_count_23 (tgt := 116) (by rw [hc2]; decide) (by rw [hc2]; decide) (by rw [hc2]; exact rfl) (by decide) ?_
      refine v_aload_n C dX9_count_116 rfl rfl ?_
      refine gf_X9_10 C dX9_count_117 ?_
      refine gf_X9_54 C (by decide) dX9_count_120 ?_
      exact v_iret C dX9_count_123 h
    refine v_tcase h (fun hc3 h => ?_) (fun hc3 h => ?_)
    · refine v_tin C dX9_count_23 (tgt := 124) (by rw [hc3]; decide) (by rw [hc3]; decide) (by rw [hc3]; exact rfl) (by decide) ?_
      refine v_aload_n C dX9_count_124 rfl rfl ?_
      refine gf_X9_10 C dX9_count_125 ?_
      refine gf_X9_87 C (by decide) dX9_count_128 ?_
      exact v_iret C dX9_count_131 h
    refine v_tcase h (fun hc4 h => ?_) (fun hc4 h => ?_)
    · refine v_tin C dX9_count_23 (tgt := 212) (by rw [hc4]; decide) (by rw [hc4]; decide) (by rw [hc4]; exact rfl) (by decide) ?_
      refine v_bipush C dX9_count_212 kb_m2 ?_
      exact v_iret C dX9_count_214 h
    refine v_tcase h (fun hc5 h => ?_) (fun hc5 h => ?_)
    · refine v_tin C dX9_count_23 (tgt := 212) (by rw [hc5]; decide) (by rw [hc5]; decide) (by rw [hc5]; exact rfl) (by decide) ?_
      refine v_bipush C dX9_count_212 kb_m2 ?_
      exact v_iret C dX9_count_214 h
    refine v_tcase h (fun hc6 h => ?_) (fun hc6 h => ?_)
    · refine v_tin C dX9_count_23 (tgt := 212) (by rw [hc6]; decide) (by rw [hc6]; decide) (by rw [hc6]; exact rfl) (by decide) ?_
      refine v_bipush C dX9_count_212 kb_m2 ?_
      exact v_iret C dX9_count_214 h
    refine v_tcase h (fun hc7 h => ?_) (fun hc7 h => ?_)
    · refine v_tin C dX9_count_23 (tgt := 212) (by rw [hc7]; decide) (by rw [hc7]; decide) (by rw [hc7]; exact rfl) (by decide) ?_
      refine v_bipush C dX9_count_212 kb_m2 ?_
      exact v_iret C dX9_count_214 h
    refine v_tcase h (fun hc8 h => ?_) (fun hc8 h => ?_)
    · refine v_tin C dX9_count_23 (tgt := 212) (by rw [hc8]; decide) (by rw [hc8]; decide) (by rw [hc8]; exact rfl) (by decide) ?_
      refine v_bipush C dX9_count_212 kb_m2 ?_
      exact v_iret C dX9_count_214 h
    refine v_tcase h (fun hc9 h => ?_) (fun hc9 h => ?_)
    · refine v_tin C dX9_count_23 (tgt := 132) (by rw [hc9]; decide) (by rw [hc9]; decide) (by rw [hc9]; exact rfl) (by decide) ?_
      refine v_aload_n C dX9_count_132 rfl rfl ?_
      refine gf_X9_10 C dX9_count_133 ?_
      refine gf_X9_262 C (by decide) dX9_count_136 ?_
      exact v_iret C dX9_count_139 h
    refine v_tcase h (fun hc10 h => ?_) (fun hc10 h => ?_)
    · refine v_tin C dX9_count_23 (tgt := 140) (by rw [hc10]; decide) (by rw [hc10]; decide) (by rw [hc10]; exact rfl) (by decide) ?_
      refine v_aload_n C dX9_count_140 rfl rfl ?_
      refine gf_X9_10 C dX9_count_141 ?_
      refine gf_X9_178 C (by decide) dX9_count_144 ?_
      exact v_iret C dX9_count_147 h
    refine v_tcase h (fun hc11 h => ?_) (fun hc11 h => ?_)
    · refine v_tin C dX9_count_23 (tgt := 148) (by rw [hc11]; decide) (by rw [hc11]; decide) (by rw [hc11]; exact rfl) (by decide) ?_
      refine v_aload_n C dX9_count_148 rfl rfl ?_
      refine gf_X9_10 C dX9_count_149 ?_
      refine gf_X9_80 C (by decide) dX9_count_152 ?_
      exact v_iret C dX9_count_155 h
    refine v_tcase h (fun hc14 h => ?_) (fun hc14 h => ?_)
    · refine v_tin C dX9_count_23 (tgt := 156) (by rw [hc14]; decide) (by rw [hc14]; decide) (by rw [hc14]; exact rfl) (by decide) ?_
      refine v_aload_n C dX9_count_156 rfl rfl ?_
      refine gf_X9_10 C dX9_count_157 ?_
      refine cVi C 5 0 0 (av := []) si_X5_allPrincipals lk_X9_326 (ok5 (by decide)) rfl rfl rfl rfl (st := []) rfl (Nat.le_of_ble_eq_true rfl) dX9_count_160 h (fun _ _ hc => s_X5_allPrincipals (d := d) 0 (by decide) hc) (fun r12 σ13 h => ?_)
      exact v_iret C dX9_count_163 h
    refine v_tcase h (fun hc17 h => ?_) (fun hc17 h => ?_)
    · refine v_tin C dX9_count_23 (tgt := 164) (by rw [hc17]; decide) (by rw [hc17]; decide) (by rw [hc17]; exact rfl) (by decide) ?_
      refine v_aload_n C dX9_count_164 rfl rfl ?_
      refine gf_X9_10 C dX9_count_165 ?_
      refine cVi C 5 0 0 (av := []) si_X5_allInterestDue lk_X9_329 (ok5 (by decide)) rfl rfl rfl rfl (st := []) rfl (Nat.le_of_ble_eq_true rfl) dX9_count_168 h (fun _ _ hc => s_X5_allInterestDue (d := d) 0 (by decide) hc) (fun r15 σ16 h => ?_)
      exact v_iret C dX9_count_171 h
    refine v_tcase h (fun hc20 h => ?_) (fun hc20 h => ?_)
    · refine v_tin C dX9_count_23 (tgt := 172) (by rw [hc20]; decide) (by rw [hc20]; decide) (by rw [hc20]; exact rfl) (by decide) ?_
      refine v_aload_n C dX9_count_172 rfl rfl ?_
      refine gf_X9_10 C dX9_count_173 ?_
      refine cVi C 5 0 0 (av := []) si_X5_allLosses lk_X9_332 (ok5 (by decide)) rfl rfl rfl rfl (st := []) rfl (Nat.le_of_ble_eq_true rfl) dX9_count_176 h (fun _ _ hc => s_X5_allLosses (d := d) 0 (by decide) hc) (fun r18 σ19 h => ?_)
      exact v_iret C dX9_count_179 h
    refine v_tcase h (fun hc23 h => ?_) (fun hc23 h => ?_)
    · refine v_tin C dX9_count_23 (tgt := 180) (by rw [hc23]; decide) (by rw [hc23]; decide) (by rw [hc23]; exact rfl) (by decide) ?_
      refine v_aload_n C dX9_count_180 rfl rfl ?_
      refine gf_X9_10 C dX9_count_181 ?_
      refine cVi C 5 0 0 (av := []) si_X5_loansInArrears lk_X9_222 (ok5 (by decide)) rfl rfl rfl rfl (st := []) rfl (Nat.le_of_ble_eq_true rfl) dX9_count_184 h (fun _ _ hc => s_X5_loansInArrears (d := d) 0 (by decide) hc) (fun r21 σ22 h => ?_)
      exact v_iret C dX9_count_187 h
    refine v_tcase h (fun hc26 h => ?_) (fun hc26 h => ?_)
    · refine v_tin C dX9_count_23 (tgt := 188) (by rw [hc26]; decide) (by rw [hc26]; decide) (by rw [hc26]; exact rfl) (by decide) ?_
      refine v_aload_n C dX9_count_188 rfl rfl ?_
      refine gf_X9_10 C dX9_count_189 ?_
      refine cVi C 5 0 0 (av := []) si_X5_ordersOfSwitches lk_X9_335 (ok5 (by decide)) rfl rfl rfl rfl (st := []) rfl (Nat.le_of_ble_eq_true rfl) dX9_count_192 h (fun _ _ hc => s_X5_ordersOfSwitches (d := d) 0 (by decide) hc) (fun r24 σ25 h => ?_)
      exact v_iret C dX9_count_195 h
    refine v_tcase h (fun hc27 h => ?_) (fun hc27 h => ?_)
    · refine v_tin C dX9_count_23 (tgt := 196) (by rw [hc27]; decide) (by rw [hc27]; decide) (by rw [hc27]; exact rfl) (by decide) ?_
      refine v_aload_n C dX9_count_196 rfl rfl ?_
      refine gf_X9_29 C dX9_count_197 ?_
      refine gf_X9_256 C dX9_count_200 ?_
      exact v_iret C dX9_count_203 h
    refine v_tcase h (fun hc28 h => ?_) (fun hc28 h => ?_)
    · refine v_tin C dX9_count_23 (tgt := 204) (by rw [hc28]; decide) (by rw [hc28]; decide) (by rw [hc28]; exact rfl) (by decide) ?_
      refine v_aload_n C dX9_count_204 rfl rfl ?_
      refine gf_X9_36 C dX9_count_205 ?_
      refine gf_X9_226 C dX9_count_208 ?_
      exact v_iret C dX9_count_211 h
    have hc1t := tne hc1 (a := 0) (by decide)
    have hc2t := tne hc2 (a := 1) (by decide)
    have hc3t := tne hc3 (a := 2) (by decide)
    have hc4t := tne hc4 (a := 3) (by decide)
    have hc5t := tne hc5 (a := 4) (by decide)
    have hc6t := tne hc6 (a := 5) (by decide)
    have hc7t := tne hc7 (a := 6) (by decide)
    have hc8t := tne hc8 (a := 7) (by decide)
    have hc9t := tne hc9 (a := 8) (by decide)
    have hc10t := tne hc10 (a := 9) (by decide)
    have hc11t := tne hc11 (a := 10) (by decide)
    have hc14t := tne hc14 (a := 11) (by decide)
    have hc17t := tne hc17 (a := 12) (by decide)
    have hc20t := tne hc20 (a := 13) (by decide)
    have hc23t := tne hc23 (a := 14) (by decide)
    have hc26t := tne hc26 (a := 15) (by decide)
    have hc27t := tne hc27 (a := 16) (by decide)
    have hc28t := tne hc28 (a := 17) (by decide)
    refine v_tout C dX9_count_23 (tgt := 212) (by omega) (by decide) ?_
    refine v_bipush C dX9_count_212 kb_m2 ?_
    exact v_iret C dX9_count_214 h
  · refine v_iload_n C dX9_count_5 rfl rfl ?_
    refine v_bipush C dX9_count_6 kb_7 ?_
    refine v_icmp_gt C dX9_count_8 (tgt := 22) (by decide) h (fun h => ?_) (fun h => ?_)
    · refine v_iload_n C dX9_count_22 rfl rfl ?_
      refine v_tcase h (fun hc29 h => ?_) (fun hc29 h => ?_)
      · refine v_tin C dX9_count_23 (tgt := 108) (by rw [hc29]; decide) (by rw [hc29]; decide) (by rw [hc29]; exact rfl) (by decide) ?_
        refine v_aload_n C dX9_count_108 rfl rfl ?_
        refine gf_X9_10 C dX9_count_109 ?_
        refine gf_X9_216 C (by decide) dX9_count_112 ?_
        exact v_iret C dX9_count_115 h
      refine v_tcase h (fun hc30 h => ?_) (fun hc30 h => ?_)
      · refine v_tin C dX9_count_23 (tgt := 116) (by rw [hc30]; decide) (by rw [hc30]; decide) (by rw [hc30]; exact rfl) (by decide) ?_
        refine v_aload_n C dX9_count_116 rfl rfl ?_
        refine gf_X9_10 C dX9_count_117 ?_
        refine gf_X9_54 C (by decide) dX9_count_120 ?_
        exact v_iret C dX9_count_123 h
      refine v_tcase h (fun hc31 h => ?_) (fun hc31 h => ?_)
      · refine v_tin C dX9_count_23 (tgt := 124) (by rw [hc31]; decide) (by rw [hc31]; decide) (by rw [hc31]; exact rfl) (by decide) ?_
        refine v_aload_n C dX9_count_124 rfl rfl ?_
        refine gf_X9_10 C dX9_count_125 ?_
        refine gf_X9_87 C (by decide) dX9_count_128 ?_
        exact v_iret C dX9_count_131 h
      refine v_tcase h (fun hc32 h => ?_) (fun hc32 h => ?_)
      · refine v_tin C dX9_count_23 (tgt := 212) (by rw [hc32]; decide) (by rw [hc32]; decide) (by rw [hc32]; exact rfl) (by decide) ?_
        refine v_bipush C dX9_count_212 kb_m2 ?_
        exact v_iret C dX9_count_214 h
      refine v_tcase h (fun hc33 h => ?_) (fun hc33 h => ?_)
      · refine v_tin C dX9_count_23 (tgt := 212) (by rw [hc33]; decide) (by rw [hc33]; decide) (by rw [hc33]; exact rfl) (by decide) ?_
        refine v_bipush C dX9_count_212 kb_m2 ?_
        exact v_iret C dX9_count_214 h
      refine v_tcase h (fun hc34 h => ?_) (fun hc34 h => ?_)
      · refine v_tin C dX9_count_23 (tgt := 212) (by rw [hc34]; decide) (by rw [hc34]; decide) (by rw [hc34]; exact rfl) (by decide) ?_
        refine v_bipush C dX9_count_212 kb_m2 ?_
        exact v_iret C dX9_count_214 h
      refine v_tcase h (fun hc35 h => ?_) (fun hc35 h => ?_)
      · refine v_tin C dX9_count_23 (tgt := 212) (by rw [hc35]; decide) (by rw [hc35]; decide) (by rw [hc35]; exact rfl) (by decide) ?_
        refine v_bipush C dX9_count_212 kb_m2 ?_
        exact v_iret C dX9_count_214 h
      refine v_tcase h (fun hc36 h => ?_) (fun hc36 h => ?_)
      · refine v_tin C dX9_count_23 (tgt := 212) (by rw [hc36]; decide) (by rw [hc36]; decide) (by rw [hc36]; exact rfl) (by decide) ?_
        refine v_bipush C dX9_count_212 kb_m2 ?_
        exact v_iret C dX9_count_214 h
      refine v_tcase h (fun hc37 h => ?_) (fun hc37 h => ?_)
      · refine v_tin C dX9_count_23 (tgt := 132) (by rw [hc37]; decide) (by rw [hc37]; decide) (by rw [hc37]; exact rfl) (by decide) ?_
        refine v_aload_n C dX9_count_132 rfl rfl ?_
        refine gf_X9_10 C dX9_count_133 ?_
        refine gf_X9_262 C (by decide) dX9_count_136 ?_
        exact v_iret C dX9_count_139 h
      refine v_tcase h (fun hc38 h => ?_) (fun hc38 h => ?_)
      · refine v_tin C dX9_count_23 (tgt := 140) (by rw [hc38]; decide) (by rw [hc38]; decide) (by rw [hc38]; exact rfl) (by decide) ?_
        refine v_aload_n C dX9_count_140 rfl rfl ?_
        refine gf_X9_10 C dX9_count_141 ?_
        refine gf_X9_178 C (by decide) dX9_count_144 ?_
        exact v_iret C dX9_count_147 h
      refine v_tcase h (fun hc39 h => ?_) (fun hc39 h => ?_)
      · refine v_tin C dX9_count_23 (tgt := 148) (by rw [hc39]; decide) (by rw [hc39]; decide) (by rw [hc39]; exact rfl) (by decide) ?_
        refine v_aload_n C dX9_count_148 rfl rfl ?_
        refine gf_X9_10 C dX9_count_149 ?_
        refine gf_X9_80 C (by decide) dX9_count_152 ?_
        exact v_iret C dX9_count_155 h
      refine v_tcase h (fun hc42 h => ?_) (fun hc42 h => ?_)
      · refine v_tin C dX9_count_23 (tgt := 156) (by rw [hc42]; decide) (by rw [hc42]; decide) (by rw [hc42]; exact rfl) (by decide) ?_
        refine v_aload_n C dX9_count_156 rfl rfl ?_
        refine gf_X9_10 C dX9_count_157 ?_
        refine cVi C 5 0 0 (av := []) si_X5_allPrincipals lk_X9_326 (ok5 (by decide)) rfl rfl rfl rfl (st := []) rfl (Nat.le_of_ble_eq_true rfl) dX9_count_160 h (fun _ _ hc => s_X5_allPrincipals (d := d) 0 (by decide) hc) (fun r40 σ41 h => ?_)
        exact v_iret C dX9_count_163 h
      refine v_tcase h (fun hc45 h => ?_) (fun hc45 h => ?_)
      · refine v_tin C dX9_count_23 (tgt := 164) (by rw [hc45]; decide) (by rw [hc45]; decide) (by rw [hc45]; exact rfl) (by decide) ?_
        refine v_aload_n C dX9_count_164 rfl rfl ?_
        refine gf_X9_10 C dX9_count_165 ?_
        refine cVi C 5 0 0 (av := []) si_X5_allInterestDue lk_X9_329 (ok5 (by decide)) rfl rfl rfl rfl (st := []) rfl (Nat.le_of_ble_eq_true rfl) dX9_count_168 h (fun _ _ hc => s_X5_allInterestDue (d := d) 0 (by decide) hc) (fun r43 σ44 h => ?_)
        exact v_iret C dX9_count_171 h
      refine v_tcase h (fun hc48 h => ?_) (fun hc48 h => ?_)
      · refine v_tin C dX9_count_23 (tgt := 172) (by rw [hc48]; decide) (by rw [hc48]; decide) (by rw [hc48]; exact rfl) (by decide) ?_
        refine v_aload_n C dX9_count_172 rfl rfl ?_
        refine gf_X9_10 C dX9_count_173 ?_
        refine cVi C 5 0 0 (av := []) si_X5_allLosses lk_X9_332 (ok5 (by decide)) rfl rfl rfl rfl (st := []) rfl (Nat.le_of_ble_eq_true rfl) dX9_count_176 h (fun _ _ hc => s_X5_allLosses (d := d) 0 (by decide) hc) (fun r46 σ47 h => ?_)
        exact v_iret C dX9_count_179 h
      refine v_tcase h (fun hc51 h => ?_) (fun hc51 h => ?_)
      · refine v_tin C dX9_count_23 (tgt := 180) (by rw [hc51]; decide) (by rw [hc51]; decide) (by rw [hc51]; exact rfl) (by decide) ?_
        refine v_aload_n C dX9_count_180 rfl rfl ?_
        refine gf_X9_10 C dX9_count_181 ?_
        refine cVi C 5 0 0 (av := []) si_X5_loansInArrears lk_X9_222 (ok5 (by decide)) rfl rfl rfl rfl (st := []) rfl (Nat.le_of_ble_eq_true rfl) dX9_count_184 h (fun _ _ hc => s_X5_loansInArrears (d := d) 0 (by decide) hc) (fun r49 σ50 h => ?_)
        exact v_iret C dX9_count_187 h
      refine v_tcase h (fun hc54 h => ?_) (fun hc54 h => ?_)
      · refine v_tin C dX9_count_23 (tgt := 188) (by rw [hc54]; decide) (by rw [hc54]; decide) (by rw [hc54]; exact rfl) (by decide) ?_
        refine v_aload_n C dX9_count_188 rfl rfl ?_
        refine gf_X9_10 C dX9_count_189 ?_
        refine cVi C 5 0 0 (av := []) si_X5_ordersOfSwitches lk_X9_335 (ok5 (by decide)) rfl rfl rfl rfl (st := []) rfl (Nat.le_of_ble_eq_true rfl) dX9_count_192 h (fun _ _ hc => s_X5_ordersOfSwitches (d := d) 0 (by decide) hc) (fun r52 σ53 h => ?_)
        exact v_iret C dX9_count_195 h
      refine v_tcase h (fun hc55 h => ?_) (fun hc55 h => ?_)
      · refine v_tin C dX9_count_23 (tgt := 196) (by rw [hc55]; decide) (by rw [hc55]; decide) (by rw [hc55]; exact rfl) (by decide) ?_
        refine v_aload_n C dX9_count_196 rfl rfl ?_
        refine gf_X9_29 C dX9_count_197 ?_
        refine gf_X9_256 C dX9_count_200 ?_
        exact v_iret C dX9_count_203 h
      refine v_tcase h (fun hc56 h => ?_) (fun hc56 h => ?_)
      · refine v_tin C dX9_count_23 (tgt := 204) (by rw [hc56]; decide) (by rw [hc56]; decide) (by rw [hc56]; exact rfl) (by decide) ?_
        refine v_aload_n C dX9_count_204 rfl rfl ?_
        refine gf_X9_36 C dX9_count_205 ?_
        refine gf_X9_226 C dX9_count_208 ?_
        exact v_iret C dX9_count_211 h
      have hc29t := tne hc29 (a := 0) (by decide)
      have hc30t := tne hc30 (a := 1) (by decide)
      have hc31t := tne hc31 (a := 2) (by decide)
      have hc32t := tne hc32 (a := 3) (by decide)
      have hc33t := tne hc33 (a := 4) (by decide)
      have hc34t := tne hc34 (a := 5) (by decide)
      have hc35t := tne hc35 (a := 6) (by decide)
      have hc36t := tne hc36 (a := 7) (by decide)
      have hc37t := tne hc37 (a := 8) (by decide)
      have hc38t := tne hc38 (a := 9) (by decide)
      have hc39t := tne hc39 (a := 10) (by decide)
      have hc42t := tne hc42 (a := 11) (by decide)
      have hc45t := tne hc45 (a := 12) (by decide)
      have hc48t := tne hc48 (a := 13) (by decide)
      have hc51t := tne hc51 (a := 14) (by decide)
      have hc54t := tne hc54 (a := 15) (by decide)
      have hc55t := tne hc55 (a := 16) (by decide)
      have hc56t := tne hc56 (a := 17) (by decide)
      refine v_tout C dX9_count_23 (tgt := 212) (by omega) (by decide) ?_
      refine v_bipush C dX9_count_212 kb_m2 ?_
      exact v_iret C dX9_count_214 h
    · refine v_aload_n C dX9_count_11 rfl rfl ?_
      refine gf_X9_10 C dX9_count_12 ?_
      refine v_iload_n C dX9_count_15 rfl rfl ?_
      refine v_iconst C dX9_count_16 ki_3 ?_
      refine v_isub C dX9_count_17 ?_
      refine cVi C 5 0 0 (av := [.int (a1 - (3 : Int32))]) si_X5_loansInState lk_X9_323 (ok5 (by decide)) rfl rfl rfl rfl (st := []) rfl (Nat.le_of_ble_eq_true rfl) dX9_count_18 h (fun _ _ hc => s_X5_loansInState (d := d) 0 (a1 - (3 : Int32)) (by decide) hc) (fun r57 σ58 h => ?_)
      exact v_iret C dX9_count_21 h
