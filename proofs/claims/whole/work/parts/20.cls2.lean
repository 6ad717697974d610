/-! by program (wip/whole/walk.py): X5_fundingError X6_open X5_addNote X9_isServicer X5_takePayment X5_writeOff X5_passMonth X5_notesFor X5_principalsOf X5_liveNotesOf X5_loansOf X5_loansInState X5_loansServedBy X5_loansInArrears X5_ordersOfSwitches X5_allPrincipals X5_allInterestDue X5_allLosses X9_feeOf X7_areOf X8_clear X8_weighPrincipals X8_ofGivingUp X8_shareOut -/
def dc_X5_fundingError (j0 : Nat) (a1 : Int32) (a2 : Int32) (a3 : Int32) (σ : Sto) : Option (Int32 × Sto) :=
  (bd (dc_X5_hasInvestor j0 a1 σ) fun r1 σ2 => (if r1 = 0 then some ((-1 : Int32), σ2) else (bd (dc_X5_hasLoan j0 a2 σ2) fun r3 σ4 => (if r3 = 0 then some ((-1 : Int32), σ4) else (if a3 < (1 : Int32) then some ((-2 : Int32), σ4) else (if a3 ≤ (99999 : Int32) then (if inb a2 10 then (if (σ4.1 64 j0 a2.toNatClampNeg) = 0 then (bd (dc_X5_missing j0 a2 σ4) fun r6 σ7 => (if r6 < a3 then some ((-4 : Int32), σ7) else (if inb a1 8 then (if a3 ≤ (σ7.1 48 j0 a1.toNatClampNeg) then (if (σ7.1 86 j0 0) < (60 : Int32) then some ((0 : Int32), σ7) else some ((-3 : Int32), σ7)) else some ((-4 : Int32), σ7)) else none))) else some ((-4 : Int32), σ4)) else none) else some ((-2 : Int32), σ4)))))))
set_option maxRecDepth 20000 in
set_option maxHeartbeats 4000000 in
theorem s_X5_fundingError {G : Gm} {d : Nat} (j0 : Nat) (a1 : Int32) (a2 : Int32) (a3 : Int32) (hj0 : j0 < 7) {σ τ : Sto} {r : Int32} (h : dc_X5_fundingError j0 a1 a2 a3 σ = some (r, τ)) : Cl G (d + 2) m_X5_fundingError [.ref (ad G 5 j0 0), .int a1, .int a2, .int a3] σ (some (.int r)) τ := by
  unfold dc_X5_fundingError at h
  refine Cl.mk (cc := cX5_fundingError) (own := RX5) (nL := 4) (ret := (some .int)) rfl rfl rfl rfl (by decide +kernel) (catA rfl) (Nat.le_of_ble_eq_true rfl) (fun X C => ?_)
  show V X G 0 0 (QE X G (some (.int r)) τ) σ 0 [some (.ref (ad G 5 j0 0)), some (.int a1), some (.int a2), some (.int a3)] []
  refine v_aload_n C dX5_fundingError_0 rfl rfl ?_
  refine v_iload_n C dX5_fundingError_1 rfl rfl ?_
  refine cVi C 5 j0 0 (av := [.int a1]) si_X5_hasInvestor lk_X5_75 (ok5 hj0) rfl rfl rfl rfl (st := []) rfl (Nat.le_of_ble_eq_true rfl) dX5_fundingError_2 h (fun _ _ hc => s_X5_hasInvestor (d := (d + 1)) j0 a1 hj0 hc) (fun r1 σ2 h => ?_)
  refine v_if_eq C dX5_fundingError_5 (tgt := 16) (by decide) h (fun h => ?_) (fun h => ?_)
  · refine v_iconst C dX5_fundingError_16 ki_m1 ?_
    exact v_iret C dX5_fundingError_17 h
  · refine v_aload_n C dX5_fundingError_8 rfl rfl ?_
    refine v_iload_n C dX5_fundingError_9 rfl rfl ?_
    refine cVi C 5 j0 0 (av := [.int a2]) si_X5_hasLoan lk_X5_68 (ok5 hj0) rfl rfl rfl rfl (st := []) rfl (Nat.le_of_ble_eq_true rfl) dX5_fundingError_10 h (fun _ _ hc => s_X5_hasLoan (d := (d + 1)) j0 a2 hj0 hc) (fun r3 σ4 h => ?_)
    refine v_if_ne C dX5_fundingError_13 (tgt := 18) (by decide) h (fun h => ?_) (fun h => ?_)
    · refine v_iload_n C dX5_fundingError_18 rfl rfl ?_
      refine v_iconst C dX5_fundingError_19 ki_1 ?_
      refine v_icmp_lt C dX5_fundingError_20 (tgt := 29) (by decide) h (fun h => ?_) (fun h => ?_)
      · refine v_bipush C dX5_fundingError_29 kb_m2 ?_
        exact v_iret C dX5_fundingError_31 h
      · refine v_iload_n C dX5_fundingError_23 rfl rfl ?_
        refine v_ldc C dX5_fundingError_24 lk_X5_81 ?_
        refine v_icmp_le C dX5_fundingError_26 (tgt := 32) (by decide) h (fun h => ?_) (fun h => ?_)
        · refine v_aload_n C dX5_fundingError_32 rfl rfl ?_
          refine gf_X5_19 C hj0 dX5_fundingError_33 ?_
          refine v_iload_n C dX5_fundingError_36 rfl rfl ?_
          refine lq_12 C hj0 dX5_fundingError_37 h (fun h hq5 => ?_)
          refine gf_X5_72 C hj0 hq5 dX5_fundingError_38 ?_
          refine v_if_ne C dX5_fundingError_41 (tgt := 66) (by decide) h (fun h => ?_) (fun h => ?_)
          · refine v_bipush C dX5_fundingError_66 kb_m4 ?_
            exact v_iret C dX5_fundingError_68 h
          · refine v_iload_n C dX5_fundingError_44 rfl rfl ?_
            refine v_aload_n C dX5_fundingError_45 rfl rfl ?_
            refine v_iload_n C dX5_fundingError_46 rfl rfl ?_
            refine cVi C 5 j0 0 (av := [.int a2]) si_X5_missing lk_X5_82 (ok5 hj0) rfl rfl rfl rfl (st := [.int a3]) rfl (Nat.le_of_ble_eq_true rfl) dX5_fundingError_47 h (fun _ _ hc => s_X5_missing (d := d) j0 a2 hj0 hc) (fun r6 σ7 h => ?_)
            refine v_icmp_gt C dX5_fundingError_50 (tgt := 66) (by decide) h (fun h => ?_) (fun h => ?_)
            · refine v_bipush C dX5_fundingError_66 kb_m4 ?_
              exact v_iret C dX5_fundingError_68 h
            · refine v_iload_n C dX5_fundingError_53 rfl rfl ?_
              refine v_aload_n C dX5_fundingError_54 rfl rfl ?_
              refine gf_X5_11 C hj0 dX5_fundingError_55 ?_
              refine v_iload_n C dX5_fundingError_58 rfl rfl ?_
              refine lq_11 C hj0 dX5_fundingError_59 h (fun h hq8 => ?_)
              refine gf_X5_78 C hj0 hq8 dX5_fundingError_60 ?_
              refine v_icmp_le C dX5_fundingError_63 (tgt := 69) (by decide) h (fun h => ?_) (fun h => ?_)
              · refine v_aload_n C dX5_fundingError_69 rfl rfl ?_
                refine gf_X5_43 C hj0 dX5_fundingError_70 ?_
                refine v_bipush C dX5_fundingError_73 kb_60 ?_
                refine v_icmp_lt C dX5_fundingError_75 (tgt := 83) (by decide) h (fun h => ?_) (fun h => ?_)
                · refine v_iconst C dX5_fundingError_83 ki_0 ?_
                  exact v_iret C dX5_fundingError_84 h
                · refine v_bipush C dX5_fundingError_78 kb_m3 ?_
                  refine v_goto C dX5_fundingError_80 (tgt := 84) (by decide) ?_
                  exact v_iret C dX5_fundingError_84 h
              · refine v_bipush C dX5_fundingError_66 kb_m4 ?_
                exact v_iret C dX5_fundingError_68 h
        · refine v_bipush C dX5_fundingError_29 kb_m2 ?_
          exact v_iret C dX5_fundingError_31 h
    · refine v_iconst C dX5_fundingError_16 ki_m1 ?_
      exact v_iret C dX5_fundingError_17 h

def dc_X6_open (j0 : Nat) (l0 : Nat) (a1 : Int32) (a2 : Int32) (a3 : Int32) (a4 : Int32) (σ : Sto) : Option Sto :=
  (lt (up (up σ 96 j0 l0 a1) 97 j0 l0 a2) fun σ1 => (lt (up (up σ1 98 j0 l0 a3) 99 j0 l0 a4) fun σ2 => (lt (up (up σ2 100 j0 l0 a4) 101 j0 l0 (0 : Int32)) fun σ3 => some (up σ3 102 j0 l0 (0 : Int32)))))
set_option maxRecDepth 20000 in
set_option maxHeartbeats 4000000 in
theorem s_X6_open {G : Gm} {d : Nat} (j0 : Nat) (l0 : Nat) (a1 : Int32) (a2 : Int32) (a3 : Int32) (a4 : Int32) (hj0 : j0 < 7) (hl0 : l0 < 60) {σ τ : Sto} (h : dc_X6_open j0 l0 a1 a2 a3 a4 σ = some τ) : Cl G d m_X6_open [.ref (ad G 6 j0 l0), .int a1, .int a2, .int a3, .int a4] σ none τ := by
  unfold dc_X6_open at h
  refine Cl.mk (cc := cX6_open) (own := RX6) (nL := 5) (ret := none) rfl rfl rfl rfl (by decide +kernel) (catA rfl) (Nat.le_of_ble_eq_true rfl) (fun X C => ?_)
  show V X G 0 0 (QE X G none τ) σ 0 [some (.ref (ad G 6 j0 l0)), some (.int a1), some (.int a2), some (.int a3), some (.int a4)] []
  refine v_aload_n C dX6_open_0 rfl rfl ?_
  refine v_iload_n C dX6_open_1 rfl rfl ?_
  refine pf_X6_7 C hj0 hl0 dX6_open_2 ?_
  refine v_aload_n C dX6_open_5 rfl rfl ?_
  refine v_iload_n C dX6_open_6 rfl rfl ?_
  refine pf_X6_13 C hj0 hl0 dX6_open_7 ?_
  refine v_lt h (fun σ1 h => ?_)
  refine v_aload_n C dX6_open_10 rfl rfl ?_
  refine v_iload_n C dX6_open_11 rfl rfl ?_
  refine pf_X6_16 C hj0 hl0 dX6_open_12 ?_
  refine v_aload_n C dX6_open_15 rfl rfl ?_
  refine v_iload C dX6_open_16 rfl ?_
  refine pf_X6_19 C hj0 hl0 dX6_open_18 ?_
  refine v_lt h (fun σ2 h => ?_)
  refine v_aload_n C dX6_open_21 rfl rfl ?_
  refine v_iload C dX6_open_22 rfl ?_
  refine pf_X6_22 C hj0 hl0 dX6_open_24 ?_
  refine v_aload_n C dX6_open_27 rfl rfl ?_
  refine v_iconst C dX6_open_28 ki_0 ?_
  refine pf_X6_25 C hj0 hl0 dX6_open_29 ?_
  refine v_lt h (fun σ3 h => ?_)
  refine v_aload_n C dX6_open_32 rfl rfl ?_
  refine v_iconst C dX6_open_33 ki_0 ?_
  refine pf_X6_28 C hj0 hl0 dX6_open_34 ?_
  exact v_vret C dX6_open_37 h

def dc_X5_addNote (j0 : Nat) (a1 : Int32) (a2 : Int32) (a3 : Int32) (a4 : Int32) (σ : Sto) : Option Sto :=
  (bd (dc_X5_fundingError j0 a1 a2 a4 σ) fun r1 σ2 => (if r1 = 0 then (if inb (σ2.1 86 j0 0) 60 then (bv (dc_X6_open j0 ((σ2.1 86 j0 0).toNatClampNeg) a1 a2 a3 a4 σ2) fun σ5 => (bv (dc_X5_give j0 a1 (-a4) (up σ5 86 j0 0 ((σ5.1 86 j0 0) + (1 : Int32)))) fun σ7 => (bd (dc_X5_missing j0 a2 σ7) fun r8 σ9 => (if r8 = 0 then (if inb a2 10 then (bv (dc_X4_start j0 a2.toNatClampNeg σ9) fun σ12 => some σ12) else none) else some σ9)))) else none) else some σ2))
set_option maxRecDepth 20000 in
set_option maxHeartbeats 4000000 in
theorem s_X5_addNote {G : Gm} {d : Nat} (j0 : Nat) (a1 : Int32) (a2 : Int32) (a3 : Int32) (a4 : Int32) (hj0 : j0 < 7) {σ τ : Sto} (h : dc_X5_addNote j0 a1 a2 a3 a4 σ = some τ) : Cl G (d + 3) m_X5_addNote [.ref (ad G 5 j0 0), .int a1, .int a2, .int a3, .int a4] σ none τ := by
  unfold dc_X5_addNote at h
  refine Cl.mk (cc := cX5_addNote) (own := RX5) (nL := 5) (ret := none) rfl rfl rfl rfl (by decide +kernel) (catA rfl) (Nat.le_of_ble_eq_true rfl) (fun X C => ?_)
  show V X G 0 0 (QE X G none τ) σ 0 [some (.ref (ad G 5 j0 0)), some (.int a1), some (.int a2), some (.int a3), some (.int a4)] []
  refine v_aload_n C dX5_addNote_0 rfl rfl ?_
  refine v_iload_n C dX5_addNote_1 rfl rfl ?_
  refine v_iload_n C dX5_addNote_2 rfl rfl ?_
  refine v_iload C dX5_addNote_3 rfl ?_
  refine cVi C 5 j0 0 (av := [.int a1, .int a2, .int a4]) si_X5_fundingError lk_X5_86 (ok5 hj0) rfl rfl rfl rfl (st := []) rfl (Nat.le_of_ble_eq_true rfl) dX5_addNote_5 h (fun _ _ hc => s_X5_fundingError (d := d) j0 a1 a2 a4 hj0 hc) (fun r1 σ2 h => ?_)
  refine v_if_eq C dX5_addNote_8 (tgt := 12) (by decide) h (fun h => ?_) (fun h => ?_)
  · refine v_aload_n C dX5_addNote_12 rfl rfl ?_
    refine gf_X5_25 C hj0 dX5_addNote_13 ?_
    refine v_aload_n C dX5_addNote_16 rfl rfl ?_
    refine gf_X5_43 C hj0 dX5_addNote_17 ?_
    refine lq_13 C hj0 dX5_addNote_20 h (fun h hq3 => ?_)
    refine v_iload_n C dX5_addNote_21 rfl rfl ?_
    refine v_iload_n C dX5_addNote_22 rfl rfl ?_
    refine v_iload_n C dX5_addNote_23 rfl rfl ?_
    refine v_iload C dX5_addNote_24 rfl ?_
    refine cVv C 6 j0 ((σ2.1 86 j0 0).toNatClampNeg) (av := [.int a1, .int a2, .int a3, .int a4]) si_X6_open lk_X5_90 (ok6 hj0 hq3) rfl rfl rfl rfl (st := []) rfl (Nat.le_of_ble_eq_true rfl) dX5_addNote_26 h (fun _ hc => s_X6_open (d := (d + 2)) j0 ((σ2.1 86 j0 0).toNatClampNeg) a1 a2 a3 a4 hj0 hq3 hc) (fun σ5 h => ?_)
    refine v_aload_n C dX5_addNote_29 rfl rfl ?_
    refine v_dup C dX5_addNote_30 rfl ?_
    refine gf_X5_43 C hj0 dX5_addNote_31 ?_
    refine v_iconst C dX5_addNote_34 ki_1 ?_
    refine v_iadd C dX5_addNote_35 ?_
    refine pf_X5_43 C hj0 dX5_addNote_36 ?_
    refine v_aload_n C dX5_addNote_39 rfl rfl ?_
    refine v_iload_n C dX5_addNote_40 rfl rfl ?_
    refine v_iload C dX5_addNote_41 rfl ?_
    refine v_ineg C dX5_addNote_43 ?_
    refine cVv C 5 j0 0 (av := [.int a1, .int (-a4)]) si_X5_give lk_X5_94 (ok5 hj0) rfl rfl rfl rfl (st := []) rfl (Nat.le_of_ble_eq_true rfl) dX5_addNote_44 h (fun _ hc => s_X5_give (d := (d + 1)) j0 a1 (-a4) hj0 hc) (fun σ7 h => ?_)
    refine v_aload_n C dX5_addNote_47 rfl rfl ?_
    refine v_iload_n C dX5_addNote_48 rfl rfl ?_
    refine cVi C 5 j0 0 (av := [.int a2]) si_X5_missing lk_X5_82 (ok5 hj0) rfl rfl rfl rfl (st := []) rfl (Nat.le_of_ble_eq_true rfl) dX5_addNote_49 h (fun _ _ hc => s_X5_missing (d := (d + 1)) j0 a2 hj0 hc) (fun r8 σ9 h => ?_)
    refine v_if_ne C dX5_addNote_52 (tgt := 64) (by decide) h (fun h => ?_) (fun h => ?_)
    · exact v_vret C dX5_addNote_64 h
    · refine v_aload_n C dX5_addNote_55 rfl rfl ?_
      refine gf_X5_19 C hj0 dX5_addNote_56 ?_
      refine v_iload_n C dX5_addNote_59 rfl rfl ?_
      refine lq_12 C hj0 dX5_addNote_60 h (fun h hq10 => ?_)
      refine cVv C 4 j0 a2.toNatClampNeg (av := []) si_X4_start lk_X5_98 (ok4 hj0 hq10) rfl rfl rfl rfl (st := []) rfl (Nat.le_of_ble_eq_true rfl) dX5_addNote_61 h (fun _ hc => s_X4_start (d := (d + 1)) j0 a2.toNatClampNeg hj0 hq10 hc) (fun σ12 h => ?_)
      exact v_vret C dX5_addNote_64 h
  · exact v_vret C dX5_addNote_11 h

def dc_X9_isServicer (a0 : Int32) (σ : Sto) : Option (Int32 × Sto) :=
  (if a0 < 0 then some ((0 : Int32), σ) else (if (4 : Int32) ≤ a0 then some ((0 : Int32), σ) else some ((1 : Int32), σ)))
set_option maxRecDepth 20000 in
set_option maxHeartbeats 4000000 in
theorem s_X9_isServicer {G : Gm} {d : Nat} (a0 : Int32) {σ τ : Sto} {r : Int32} (h : dc_X9_isServicer a0 σ = some (r, τ)) : Cl G d m_X9_isServicer [.int a0] σ (some (.int r)) τ := by
  unfold dc_X9_isServicer at h
  refine Cl.mk (cc := cX9_isServicer) (own := RX9) (nL := 1) (ret := (some .boolean)) rfl rfl rfl rfl (by decide +kernel) (catA rfl) (Nat.le_of_ble_eq_true rfl) (fun X C => ?_)
  show V X G 0 0 (QE X G (some (.int r)) τ) σ 0 [some (.int a0)] []
  refine v_iload_n C dX9_isServicer_0 rfl rfl ?_
  refine v_if_lt C dX9_isServicer_1 (tgt := 16) (by decide) h (fun h => ?_) (fun h => ?_)
  · refine v_iconst C dX9_isServicer_16 ki_0 ?_
    exact v_zretc C dX9_isServicer_17 (nar01 (Or.inl rfl)) h
  · refine v_iload_n C dX9_isServicer_4 rfl rfl ?_
    refine v_fees C lk_X9_313 dX9_isServicer_5 ?_
    refine v_feelen C dX9_isServicer_8 ?_
    refine v_icmp_ge C dX9_isServicer_9 (tgt := 16) (by decide) h (fun h => ?_) (fun h => ?_)
    · refine v_iconst C dX9_isServicer_16 ki_0 ?_
      exact v_zretc C dX9_isServicer_17 (nar01 (Or.inl rfl)) h
    · refine v_iconst C dX9_isServicer_12 ki_1 ?_
      refine v_goto C dX9_isServicer_13 (tgt := 17) (by decide) ?_
      exact v_zretc C dX9_isServicer_17 (nar01 (Or.inr rfl)) h

def dc_X5_takePayment (j0 : Nat) (a1 : Int32) (σ : Sto) : Option Sto :=
  (bd (dc_X5_hasLoan j0 a1 σ) fun r1 σ2 => (if r1 = 0 then some σ2 else (if inb a1 10 then (bd (dc_X9_isServicer (σ2.1 73 j0 a1.toNatClampNeg) σ2) fun r4 σ5 => jn (fun (σ6 : Sto) => (if inb a1 10 then (bv (dc_X4_takePayment j0 a1.toNatClampNeg ((up σ6 88 j0 0 ((σ6.1 88 j0 0) + (σ6.1 114 0 0))).1 113 0 0) ((up σ6 88 j0 0 ((σ6.1 88 j0 0) + (σ6.1 114 0 0))).1 115 0 0) (up σ6 88 j0 0 ((σ6.1 88 j0 0) + (σ6.1 114 0 0)))) fun σ10 => some σ10) else none)) (fun k7 => (if r4 = 0 then k7 σ5 else (if inb (σ2.1 73 j0 a1.toNatClampNeg) 4 then (if inb (σ2.1 73 j0 a1.toNatClampNeg) 4 then k7 (up σ5 224 j0 (σ2.1 73 j0 a1.toNatClampNeg).toNatClampNeg ((σ5.1 224 j0 (σ2.1 73 j0 a1.toNatClampNeg).toNatClampNeg) + (σ5.1 112 0 0))) else none) else none)))) else none)))
set_option maxRecDepth 20000 in
set_option maxHeartbeats 4000000 in
theorem s_X5_takePayment {G : Gm} {d : Nat} (j0 : Nat) (a1 : Int32) (hj0 : j0 < 7) {σ τ : Sto} (h : dc_X5_takePayment j0 a1 σ = some τ) : Cl G (d + 2) m_X5_takePayment [.ref (ad G 5 j0 0), .int a1, .ref (ad G 7 0 0)] σ none τ := by
  unfold dc_X5_takePayment at h
  refine Cl.mk (cc := cX5_takePayment) (own := RX5) (nL := 4) (ret := none) rfl rfl rfl rfl (by decide +kernel) (catA rfl) (Nat.le_of_ble_eq_true rfl) (fun X C => ?_)
  show V X G 0 0 (QE X G none τ) σ 0 [some (.ref (ad G 5 j0 0)), some (.int a1), some (.ref (ad G 7 0 0)), none] []
  refine v_aload_n C dX5_takePayment_0 rfl rfl ?_
  refine v_iload_n C dX5_takePayment_1 rfl rfl ?_
  refine cVi C 5 j0 0 (av := [.int a1]) si_X5_hasLoan lk_X5_68 (ok5 hj0) rfl rfl rfl rfl (st := []) rfl (Nat.le_of_ble_eq_true rfl) dX5_takePayment_2 h (fun _ _ hc => s_X5_hasLoan (d := (d + 1)) j0 a1 hj0 hc) (fun r1 σ2 h => ?_)
  refine v_if_ne C dX5_takePayment_5 (tgt := 9) (by decide) h (fun h => ?_) (fun h => ?_)
  · refine v_aload_n C dX5_takePayment_9 rfl rfl ?_
    refine gf_X5_19 C hj0 dX5_takePayment_10 ?_
    refine v_iload_n C dX5_takePayment_13 rfl rfl ?_
    refine lq_12 C hj0 dX5_takePayment_14 h (fun h hq3 => ?_)
    refine gf_X5_101 C hj0 hq3 dX5_takePayment_15 ?_
    refine v_istore_n C dX5_takePayment_18 rfl (Nat.le_of_ble_eq_true rfl) (lc1 := [some (.ref (ad G 5 j0 0)), some (.int a1), some (.ref (ad G 7 0 0)), some (.int (σ2.1 73 j0 a1.toNatClampNeg))]) rfl ?_
    refine v_iload_n C dX5_takePayment_19 rfl rfl ?_
    refine cSNi C (av := [.int (σ2.1 73 j0 a1.toNatClampNeg)]) si_X9_isServicer lk_X5_104 rfl rfl (st := []) rfl (Nat.le_of_ble_eq_true rfl) dX5_takePayment_20 h (fun _ _ hc => s_X9_isServicer (d := (d + 1)) (σ2.1 73 j0 a1.toNatClampNeg)  hc) (fun r4 σ5 h => ?_)
    refine v_join (fun k => ∀ (σ6 : Sto), k σ6 = some τ → V X G 0 0 (QE X G none τ) σ6 39 [some (.ref (ad G 5 j0 0)), some (.int a1), some (.ref (ad G 7 0 0)), some (.int (σ2.1 73 j0 a1.toNatClampNeg))] []) h (fun σ6 h => ?_) (fun k7 hk7 h => ?_)
    · refine v_aload_n C dX5_takePayment_39 rfl rfl ?_
      refine v_dup C dX5_takePayment_40 rfl ?_
      refine gf_X5_49 C hj0 dX5_takePayment_41 ?_
      refine v_aload_n C dX5_takePayment_44 rfl rfl ?_
      refine gf_X5_112 C dX5_takePayment_45 ?_
      refine v_iadd C dX5_takePayment_48 ?_
      refine pf_X5_49 C hj0 dX5_takePayment_49 ?_
      refine v_aload_n C dX5_takePayment_52 rfl rfl ?_
      refine gf_X5_19 C hj0 dX5_takePayment_53 ?_
      refine v_iload_n C dX5_takePayment_56 rfl rfl ?_
      refine lq_12 C hj0 dX5_takePayment_57 h (fun h hq8 => ?_)
      refine v_aload_n C dX5_takePayment_58 rfl rfl ?_
      refine gf_X5_115 C dX5_takePayment_59 ?_
      refine v_aload_n C dX5_takePayment_62 rfl rfl ?_
      refine gf_X5_118 C dX5_takePayment_63 ?_
      refine cVv C 4 j0 a1.toNatClampNeg (av := [.int ((up σ6 88 j0 0 ((σ6.1 88 j0 0) + (σ6.1 114 0 0))).1 113 0 0), .int ((up σ6 88 j0 0 ((σ6.1 88 j0 0) + (σ6.1 114 0 0))).1 115 0 0)]) si_X4_takePayment lk_X5_121 (ok4 hj0 hq8) rfl rfl rfl rfl (st := []) rfl (Nat.le_of_ble_eq_true rfl) dX5_takePayment_66 h (fun _ hc => s_X4_takePayment (d := d) j0 a1.toNatClampNeg ((up σ6 88 j0 0 ((σ6.1 88 j0 0) + (σ6.1 114 0 0))).1 113 0 0) ((up σ6 88 j0 0 ((σ6.1 88 j0 0) + (σ6.1 114 0 0))).1 115 0 0) hj0 hq8 hc) (fun σ10 h => ?_)
      exact v_vret C dX5_takePayment_69 h
    · refine v_if_eq C dX5_takePayment_23 (tgt := 39) (by decide) h (fun h => ?_) (fun h => ?_)
      · refine v_mask [true, true, true, true] (lc' := [some (.ref (ad G 5 j0 0)), some (.int a1), some (.ref (ad G 7 0 0)), some (.int (σ2.1 73 j0 a1.toNatClampNeg))]) rfl ?_
        exact hk7 _ h
      · refine v_aload_n C dX5_takePayment_26 rfl rfl ?_
        refine gf_X5_33 C hj0 dX5_takePayment_27 ?_
        refine v_iload_n C dX5_takePayment_30 rfl rfl ?_
        refine v_dup2 C dX5_takePayment_31 rfl rfl ?_
        refine ld_14 C hj0 dX5_takePayment_32 h (fun h => ?_)
        refine v_aload_n C dX5_takePayment_33 rfl rfl ?_
        refine gf_X5_107 C dX5_takePayment_34 ?_
        refine v_iadd C dX5_takePayment_37 ?_
        refine as_14 C hj0 dX5_takePayment_38 h (fun h => ?_)
        refine v_mask [true, true, true, true] (lc' := [some (.ref (ad G 5 j0 0)), some (.int a1), some (.ref (ad G 7 0 0)), some (.int (σ2.1 73 j0 a1.toNatClampNeg))]) rfl ?_
        exact hk7 _ h
  · exact v_vret C dX5_takePayment_8 h

def dc_X5_writeOff (j0 : Nat) (a1 : Int32) (σ : Sto) : Option (Int32 × Sto) :=
  wh2 (fun (rec1 : Int32 → Int32 → Sto → Option (Int32 × Sto)) (x3 : Int32) (x4 : Int32) (σ2 : Sto) => (if (σ2.1 86 j0 0) ≤ x4 then some (x3, σ2) else (if inb x4 60 then (if (σ2.1 97 j0 x4.toNatClampNeg) = a1 then (lt (up (up σ2 102 j0 x4.toNatClampNeg (σ2.1 99 j0 x4.toNatClampNeg)) 99 j0 x4.toNatClampNeg (0 : Int32)) fun σ6 => (bd (dc_X5_hasInvestor j0 (σ6.1 96 j0 x4.toNatClampNeg) σ6) fun r7 σ8 => (if r7 = 0 then rec1 (x3 + (σ6.1 102 j0 x4.toNatClampNeg)) (x4 + 1) σ8 else (if inb (σ8.1 96 j0 x4.toNatClampNeg) 8 then rec1 (x3 + (σ6.1 102 j0 x4.toNatClampNeg)) (x4 + 1) (up σ8 50 j0 ((σ8.1 96 j0 x4.toNatClampNeg).toNatClampNeg) ((σ8.1 50 j0 ((σ8.1 96 j0 x4.toNatClampNeg).toNatClampNeg)) + (σ8.1 102 j0 x4.toNatClampNeg))) else none)))) else rec1 x3 (x4 + 1) σ2) else none))) FU (0 : Int32) (0 : Int32) σ
set_option maxRecDepth 20000 in
set_option maxHeartbeats 4000000 in
theorem s_X5_writeOff {G : Gm} {d : Nat} (j0 : Nat) (a1 : Int32) (hj0 : j0 < 7) {σ τ : Sto} {r : Int32} (h : dc_X5_writeOff j0 a1 σ = some (r, τ)) : Cl G (d + 1) m_X5_writeOff [.ref (ad G 5 j0 0), .int a1] σ (some (.int r)) τ := by
  unfold dc_X5_writeOff at h
  refine Cl.mk (cc := cX5_writeOff) (own := RX5) (nL := 5) (ret := (some .int)) rfl rfl rfl rfl (by decide +kernel) (catA rfl) (Nat.le_of_ble_eq_true rfl) (fun X C => ?_)
  show V X G 0 0 (QE X G (some (.int r)) τ) σ 0 [some (.ref (ad G 5 j0 0)), some (.int a1), none, none, none] []
  refine v_iconst C dX5_writeOff_0 ki_0 ?_
  refine v_istore_n C dX5_writeOff_1 rfl (Nat.le_of_ble_eq_true rfl) (lc1 := [some (.ref (ad G 5 j0 0)), some (.int a1), some (.int (0 : Int32)), none, none]) rfl ?_
  refine v_iconst C dX5_writeOff_2 ki_0 ?_
  refine v_istore_n C dX5_writeOff_3 rfl (Nat.le_of_ble_eq_true rfl) (lc1 := [some (.ref (ad G 5 j0 0)), some (.int a1), some (.int (0 : Int32)), some (.int (0 : Int32)), none]) rfl ?_
  refine v_loop2 (fun x3 x4 σ2 => V X G 0 0 (QE X G (some (.int r)) τ) σ2 4 [some (.ref (ad G 5 j0 0)), some (.int a1), some (.int x3), some (.int x4), none] []) (fun rec1 hrec1 x3 x4 σ2 h => ?_) h
  refine v_iload_n C dX5_writeOff_4 rfl rfl ?_
  refine v_aload_n C dX5_writeOff_5 rfl rfl ?_
  refine gf_X5_43 C hj0 dX5_writeOff_6 ?_
  refine v_icmp_ge C dX5_writeOff_9 (tgt := 94) (by decide) h (fun h => ?_) (fun h => ?_)
  · refine v_iload_n C dX5_writeOff_94 rfl rfl ?_
    exact v_iret C dX5_writeOff_95 h
  · refine v_aload_n C dX5_writeOff_12 rfl rfl ?_
    refine gf_X5_25 C hj0 dX5_writeOff_13 ?_
    refine v_iload_n C dX5_writeOff_16 rfl rfl ?_
    refine lq_13 C hj0 dX5_writeOff_17 h (fun h hq5 => ?_)
    refine v_astore C dX5_writeOff_18 (Nat.le_of_ble_eq_true rfl) (lc1 := [some (.ref (ad G 5 j0 0)), some (.int a1), some (.int x3), some (.int x4), some (.ref (ad G 6 j0 x4.toNatClampNeg))]) rfl ?_
    refine v_aload C dX5_writeOff_20 rfl ?_
    refine gf_X5_124 C hj0 hq5 dX5_writeOff_22 ?_
    refine v_iload_n C dX5_writeOff_25 rfl rfl ?_
    refine v_icmp_ne C dX5_writeOff_26 (tgt := 88) (by decide) h (fun h => ?_) (fun h => ?_)
    · refine v_iinc C dX5_writeOff_88 rfl (kc_1 _) (lc1 := [some (.ref (ad G 5 j0 0)), some (.int a1), some (.int x3), some (.int (x4 + 1)), some (.ref (ad G 6 j0 x4.toNatClampNeg))]) rfl ?_
      refine v_goto C dX5_writeOff_91 (tgt := 4) (by decide) ?_
      refine v_mask [true, true, true, true, false] (lc' := [some (.ref (ad G 5 j0 0)), some (.int a1), some (.int x3), some (.int (x4 + 1)), none]) rfl ?_
      exact hrec1 _ _ _ h
    · refine v_aload C dX5_writeOff_29 rfl ?_
      refine v_aload C dX5_writeOff_31 rfl ?_
      refine gf_X5_127 C hj0 hq5 dX5_writeOff_33 ?_
      refine pf_X5_128 C hj0 hq5 dX5_writeOff_36 ?_
      refine v_aload C dX5_writeOff_39 rfl ?_
      refine v_iconst C dX5_writeOff_41 ki_0 ?_
      refine pf_X5_127 C hj0 hq5 dX5_writeOff_42 ?_
      refine v_lt h (fun σ6 h => ?_)
      refine v_iload_n C dX5_writeOff_45 rfl rfl ?_
      refine v_aload C dX5_writeOff_46 rfl ?_
      refine gf_X5_128 C hj0 hq5 dX5_writeOff_48 ?_
      refine v_iadd C dX5_writeOff_51 ?_
      refine v_istore_n C dX5_writeOff_52 rfl (Nat.le_of_ble_eq_true rfl) (lc1 := [some (.ref (ad G 5 j0 0)), some (.int a1), some (.int (x3 + (σ6.1 102 j0 x4.toNatClampNeg))), some (.int x4), some (.ref (ad G 6 j0 x4.toNatClampNeg))]) rfl ?_
      refine v_aload_n C dX5_writeOff_53 rfl rfl ?_
      refine v_aload C dX5_writeOff_54 rfl ?_
      refine gf_X5_131 C hj0 hq5 dX5_writeOff_56 ?_
      refine cVi C 5 j0 0 (av := [.int (σ6.1 96 j0 x4.toNatClampNeg)]) si_X5_hasInvestor lk_X5_75 (ok5 hj0) rfl rfl rfl rfl (st := []) rfl (Nat.le_of_ble_eq_true rfl) dX5_writeOff_59 h (fun _ _ hc => s_X5_hasInvestor (d := d) j0 (σ6.1 96 j0 x4.toNatClampNeg) hj0 hc) (fun r7 σ8 h => ?_)
      refine v_if_eq C dX5_writeOff_62 (tgt := 88) (by decide) h (fun h => ?_) (fun h => ?_)
      · refine v_iinc C dX5_writeOff_88 rfl (kc_1 _) (lc1 := [some (.ref (ad G 5 j0 0)), some (.int a1), some (.int (x3 + (σ6.1 102 j0 x4.toNatClampNeg))), some (.int (x4 + 1)), some (.ref (ad G 6 j0 x4.toNatClampNeg))]) rfl ?_
        refine v_goto C dX5_writeOff_91 (tgt := 4) (by decide) ?_
        refine v_mask [true, true, true, true, false] (lc' := [some (.ref (ad G 5 j0 0)), some (.int a1), some (.int (x3 + (σ6.1 102 j0 x4.toNatClampNeg))), some (.int (x4 + 1)), none]) rfl ?_
        exact hrec1 _ _ _ h
      · refine v_aload_n C dX5_writeOff_65 rfl rfl ?_
        refine gf_X5_11 C hj0 dX5_writeOff_66 ?_
        refine v_aload C dX5_writeOff_69 rfl ?_
        refine gf_X5_131 C hj0 hq5 dX5_writeOff_71 ?_
        refine lq_11 C hj0 dX5_writeOff_74 h (fun h hq9 => ?_)
        refine v_dup C dX5_writeOff_75 rfl ?_
        refine gf_X5_134 C hj0 hq9 dX5_writeOff_76 ?_
        refine v_aload C dX5_writeOff_79 rfl ?_
        refine gf_X5_128 C hj0 hq5 dX5_writeOff_81 ?_
        refine v_iadd C dX5_writeOff_84 ?_
        refine pf_X5_134 C hj0 hq9 dX5_writeOff_85 ?_
        refine v_iinc C dX5_writeOff_88 rfl (kc_1 _) (lc1 := [some (.ref (ad G 5 j0 0)), some (.int a1), some (.int (x3 + (σ6.1 102 j0 x4.toNatClampNeg))), some (.int (x4 + 1)), some (.ref (ad G 6 j0 x4.toNatClampNeg))]) rfl ?_
        refine v_goto C dX5_writeOff_91 (tgt := 4) (by decide) ?_
        refine v_mask [true, true, true, true, false] (lc' := [some (.ref (ad G 5 j0 0)), some (.int a1), some (.int (x3 + (σ6.1 102 j0 x4.toNatClampNeg))), some (.int (x4 + 1)), none]) rfl ?_
        exact hrec1 _ _ _ h

def dc_X5_passMonth (j0 : Nat) (σ : Sto) : Option Sto :=
  wh1 (fun (rec1 : Int32 → Sto → Option Sto) (x3 : Int32) (σ2 : Sto) => (if (σ2.1 85 j0 0) ≤ x3 then some σ2 else (bd (dc_X5_runs j0 x3 σ2) fun r4 σ5 => (if r4 = 0 then rec1 (x3 + 1) σ5 else (if inb x3 10 then (bv (dc_X4_passMonth j0 x3.toNatClampNeg σ5) fun σ8 => rec1 (x3 + 1) σ8) else none))))) FU (0 : Int32) (up σ 87 j0 0 ((σ.1 87 j0 0) + (1 : Int32)))
set_option maxRecDepth 20000 in
set_option maxHeartbeats 4000000 in
theorem s_X5_passMonth {G : Gm} {d : Nat} (j0 : Nat) (hj0 : j0 < 7) {σ τ : Sto} (h : dc_X5_passMonth j0 σ = some τ) : Cl G (d + 2) m_X5_passMonth [.ref (ad G 5 j0 0)] σ none τ := by
  unfold dc_X5_passMonth at h
  refine Cl.mk (cc := cX5_passMonth) (own := RX5) (nL := 2) (ret := none) rfl rfl rfl rfl (by decide +kernel) (catA rfl) (Nat.le_of_ble_eq_true rfl) (fun X C => ?_)
  show V X G 0 0 (QE X G none τ) σ 0 [some (.ref (ad G 5 j0 0)), none] []
  refine v_aload_n C dX5_passMonth_0 rfl rfl ?_
  refine v_dup C dX5_passMonth_1 rfl ?_
  refine gf_X5_46 C hj0 dX5_passMonth_2 ?_
  refine v_iconst C dX5_passMonth_5 ki_1 ?_
  refine v_iadd C dX5_passMonth_6 ?_
  refine pf_X5_46 C hj0 dX5_passMonth_7 ?_
  refine v_iconst C dX5_passMonth_10 ki_0 ?_
  refine v_istore_n C dX5_passMonth_11 rfl (Nat.le_of_ble_eq_true rfl) (lc1 := [some (.ref (ad G 5 j0 0)), some (.int (0 : Int32))]) rfl ?_
  refine v_loop1 (fun x3 σ2 => V X G 0 0 (QE X G none τ) σ2 12 [some (.ref (ad G 5 j0 0)), some (.int x3)] []) (fun rec1 hrec1 x3 σ2 h => ?_) h
  refine v_iload_n C dX5_passMonth_12 rfl rfl ?_
  refine v_aload_n C dX5_passMonth_13 rfl rfl ?_
  refine gf_X5_40 C hj0 dX5_passMonth_14 ?_
  refine v_icmp_ge C dX5_passMonth_17 (tgt := 43) (by decide) h (fun h => ?_) (fun h => ?_)
  · exact v_vret C dX5_passMonth_43 h
  · refine v_aload_n C dX5_passMonth_20 rfl rfl ?_
    refine v_iload_n C dX5_passMonth_21 rfl rfl ?_
    refine cVi C 5 j0 0 (av := [.int x3]) si_X5_runs lk_X5_137 (ok5 hj0) rfl rfl rfl rfl (st := []) rfl (Nat.le_of_ble_eq_true rfl) dX5_passMonth_22 h (fun _ _ hc => s_X5_runs (d := d) j0 x3 hj0 hc) (fun r4 σ5 h => ?_)
    refine v_if_eq C dX5_passMonth_25 (tgt := 37) (by decide) h (fun h => ?_) (fun h => ?_)
    · refine v_iinc C dX5_passMonth_37 rfl (kc_1 _) (lc1 := [some (.ref (ad G 5 j0 0)), some (.int (x3 + 1))]) rfl ?_
      refine v_goto C dX5_passMonth_40 (tgt := 12) (by decide) ?_
      refine v_mask [true, true] (lc' := [some (.ref (ad G 5 j0 0)), some (.int (x3 + 1))]) rfl ?_
      exact hrec1 _ _ h
    · refine v_aload_n C dX5_passMonth_28 rfl rfl ?_
      refine gf_X5_19 C hj0 dX5_passMonth_29 ?_
      refine v_iload_n C dX5_passMonth_32 rfl rfl ?_
      refine lq_12 C hj0 dX5_passMonth_33 h (fun h hq6 => ?_)
      refine cVv C 4 j0 x3.toNatClampNeg (av := []) si_X4_passMonth lk_X5_140 (ok4 hj0 hq6) rfl rfl rfl rfl (st := []) rfl (Nat.le_of_ble_eq_true rfl) dX5_passMonth_34 h (fun _ hc => s_X4_passMonth (d := d) j0 x3.toNatClampNeg hj0 hq6 hc) (fun σ8 h => ?_)
      refine v_iinc C dX5_passMonth_37 rfl (kc_1 _) (lc1 := [some (.ref (ad G 5 j0 0)), some (.int (x3 + 1))]) rfl ?_
      refine v_goto C dX5_passMonth_40 (tgt := 12) (by decide) ?_
      refine v_mask [true, true] (lc' := [some (.ref (ad G 5 j0 0)), some (.int (x3 + 1))]) rfl ?_
      exact hrec1 _ _ h

def dc_X5_notesFor (j0 : Nat) (a1 : Int32) (σ : Sto) : Option (Int32 × Sto) :=
  wh2 (fun (rec1 : Int32 → Int32 → Sto → Option (Int32 × Sto)) (x3 : Int32) (x4 : Int32) (σ2 : Sto) => (if (σ2.1 86 j0 0) ≤ x4 then some (x3, σ2) else (if inb x4 60 then (if (σ2.1 97 j0 x4.toNatClampNeg) = a1 then rec1 (x3 + 1) (x4 + 1) σ2 else rec1 x3 (x4 + 1) σ2) else none))) FU (0 : Int32) (0 : Int32) σ
set_option maxRecDepth 20000 in
set_option maxHeartbeats 4000000 in
theorem s_X5_notesFor {G : Gm} {d : Nat} (j0 : Nat) (a1 : Int32) (hj0 : j0 < 7) {σ τ : Sto} {r : Int32} (h : dc_X5_notesFor j0 a1 σ = some (r, τ)) : Cl G d m_X5_notesFor [.ref (ad G 5 j0 0), .int a1] σ (some (.int r)) τ := by
  unfold dc_X5_notesFor at h
  refine Cl.mk (cc := cX5_notesFor) (own := RX5) (nL := 4) (ret := (some .int)) rfl rfl rfl rfl (by decide +kernel) (catA rfl) (Nat.le_of_ble_eq_true rfl) (fun X C => ?_)
  show V X G 0 0 (QE X G (some (.int r)) τ) σ 0 [some (.ref (ad G 5 j0 0)), some (.int a1), none, none] []
  refine v_iconst C dX5_notesFor_0 ki_0 ?_
  refine v_istore_n C dX5_notesFor_1 rfl (Nat.le_of_ble_eq_true rfl) (lc1 := [some (.ref (ad G 5 j0 0)), some (.int a1), some (.int (0 : Int32)), none]) rfl ?_
  refine v_iconst C dX5_notesFor_2 ki_0 ?_
  refine v_istore_n C dX5_notesFor_3 rfl (Nat.le_of_ble_eq_true rfl) (lc1 := [some (.ref (ad G 5 j0 0)), some (.int a1), some (.int (0 : Int32)), some (.int (0 : Int32))]) rfl ?_
  refine v_loop2 (fun x3 x4 σ2 => V X G 0 0 (QE X G (some (.int r)) τ) σ2 4 [some (.ref (ad G 5 j0 0)), some (.int a1), some (.int x3), some (.int x4)] []) (fun rec1 hrec1 x3 x4 σ2 h => ?_) h
  refine v_iload_n C dX5_notesFor_4 rfl rfl ?_
  refine v_aload_n C dX5_notesFor_5 rfl rfl ?_
  refine gf_X5_43 C hj0 dX5_notesFor_6 ?_
  refine v_icmp_ge C dX5_notesFor_9 (tgt := 34) (by decide) h (fun h => ?_) (fun h => ?_)
  · refine v_iload_n C dX5_notesFor_34 rfl rfl ?_
    exact v_iret C dX5_notesFor_35 h
  · refine v_aload_n C dX5_notesFor_12 rfl rfl ?_
    refine gf_X5_25 C hj0 dX5_notesFor_13 ?_
    refine v_iload_n C dX5_notesFor_16 rfl rfl ?_
    refine lq_13 C hj0 dX5_notesFor_17 h (fun h hq5 => ?_)
    refine gf_X5_124 C hj0 hq5 dX5_notesFor_18 ?_
    refine v_iload_n C dX5_notesFor_21 rfl rfl ?_
    refine v_icmp_ne C dX5_notesFor_22 (tgt := 28) (by decide) h (fun h => ?_) (fun h => ?_)
    · refine v_iinc C dX5_notesFor_28 rfl (kc_1 _) (lc1 := [some (.ref (ad G 5 j0 0)), some (.int a1), some (.int x3), some (.int (x4 + 1))]) rfl ?_
      refine v_goto C dX5_notesFor_31 (tgt := 4) (by decide) ?_
      refine v_mask [true, true, true, true] (lc' := [some (.ref (ad G 5 j0 0)), some (.int a1), some (.int x3), some (.int (x4 + 1))]) rfl ?_
      exact hrec1 _ _ _ h
    · refine v_iinc C dX5_notesFor_25 rfl (kc_1 _) (lc1 := [some (.ref (ad G 5 j0 0)), some (.int a1), some (.int (x3 + 1)), some (.int x4)]) rfl ?_
      refine v_iinc C dX5_notesFor_28 rfl (kc_1 _) (lc1 := [some (.ref (ad G 5 j0 0)), some (.int a1), some (.int (x3 + 1)), some (.int (x4 + 1))]) rfl ?_
      refine v_goto C dX5_notesFor_31 (tgt := 4) (by decide) ?_
      refine v_mask [true, true, true, true] (lc' := [some (.ref (ad G 5 j0 0)), some (.int a1), some (.int (x3 + 1)), some (.int (x4 + 1))]) rfl ?_
      exact hrec1 _ _ _ h

def dc_X5_principalsOf (j0 : Nat) (a1 : Int32) (σ : Sto) : Option (Int32 × Sto) :=
  wh2 (fun (rec1 : Int32 → Int32 → Sto → Option (Int32 × Sto)) (x3 : Int32) (x4 : Int32) (σ2 : Sto) => (if (σ2.1 86 j0 0) ≤ x4 then some (x3, σ2) else (if inb x4 60 then (if (σ2.1 96 j0 x4.toNatClampNeg) = a1 then (if inb x4 60 then rec1 (x3 + (σ2.1 99 j0 x4.toNatClampNeg)) (x4 + 1) σ2 else none) else rec1 x3 (x4 + 1) σ2) else none))) FU (0 : Int32) (0 : Int32) σ
set_option maxRecDepth 20000 in
set_option maxHeartbeats 4000000 in
theorem s_X5_principalsOf {G : Gm} {d : Nat} (j0 : Nat) (a1 : Int32) (hj0 : j0 < 7) {σ τ : Sto} {r : Int32} (h : dc_X5_principalsOf j0 a1 σ = some (r, τ)) : Cl G d m_X5_principalsOf [.ref (ad G 5 j0 0), .int a1] σ (some (.int r)) τ := by
  unfold dc_X5_principalsOf at h
  refine Cl.mk (cc := cX5_principalsOf) (own := RX5) (nL := 4) (ret := (some .int)) rfl rfl rfl rfl (by decide +kernel) (catA rfl) (Nat.le_of_ble_eq_true rfl) (fun X C => ?_)
  show V X G 0 0 (QE X G (some (.int r)) τ) σ 0 [some (.ref (ad G 5 j0 0)), some (.int a1), none, none] []
  refine v_iconst C dX5_principalsOf_0 ki_0 ?_
  refine v_istore_n C dX5_principalsOf_1 rfl (Nat.le_of_ble_eq_true rfl) (lc1 := [some (.ref (ad G 5 j0 0)), some (.int a1), some (.int (0 : Int32)), none]) rfl ?_
  refine v_iconst C dX5_principalsOf_2 ki_0 ?_
  refine v_istore_n C dX5_principalsOf_3 rfl (Nat.le_of_ble_eq_true rfl) (lc1 := [some (.ref (ad G 5 j0 0)), some (.int a1), some (.int (0 : Int32)), some (.int (0 : Int32))]) rfl ?_
  refine v_loop2 (fun x3 x4 σ2 => V X G 0 0 (QE X G (some (.int r)) τ) σ2 4 [some (.ref (ad G 5 j0 0)), some (.int a1), some (.int x3), some (.int x4)] []) (fun rec1 hrec1 x3 x4 σ2 h => ?_) h
  refine v_iload_n C dX5_principalsOf_4 rfl rfl ?_
  refine v_aload_n C dX5_principalsOf_5 rfl rfl ?_
  refine gf_X5_43 C hj0 dX5_principalsOf_6 ?_
  refine v_icmp_ge C dX5_principalsOf_9 (tgt := 43) (by decide) h (fun h => ?_) (fun h => ?_)
  · refine v_iload_n C dX5_principalsOf_43 rfl rfl ?_
    exact v_iret C dX5_principalsOf_44 h
  · refine v_aload_n C dX5_principalsOf_12 rfl rfl ?_
    refine gf_X5_25 C hj0 dX5_principalsOf_13 ?_
    refine v_iload_n C dX5_principalsOf_16 rfl rfl ?_
    refine lq_13 C hj0 dX5_principalsOf_17 h (fun h hq5 => ?_)
    refine gf_X5_131 C hj0 hq5 dX5_principalsOf_18 ?_
    refine v_iload_n C dX5_principalsOf_21 rfl rfl ?_
    refine v_icmp_ne C dX5_principalsOf_22 (tgt := 37) (by decide) h (fun h => ?_) (fun h => ?_)
    · refine v_iinc C dX5_principalsOf_37 rfl (kc_1 _) (lc1 := [some (.ref (ad G 5 j0 0)), some (.int a1), some (.int x3), some (.int (x4 + 1))]) rfl ?_
      refine v_goto C dX5_principalsOf_40 (tgt := 4) (by decide) ?_
      refine v_mask [true, true, true, true] (lc' := [some (.ref (ad G 5 j0 0)), some (.int a1), some (.int x3), some (.int (x4 + 1))]) rfl ?_
      exact hrec1 _ _ _ h
    · refine v_iload_n C dX5_principalsOf_25 rfl rfl ?_
      refine v_aload_n C dX5_principalsOf_26 rfl rfl ?_
      refine gf_X5_25 C hj0 dX5_principalsOf_27 ?_
      refine v_iload_n C dX5_principalsOf_30 rfl rfl ?_
      refine lq_13 C hj0 dX5_principalsOf_31 h (fun h hq6 => ?_)
      refine gf_X5_127 C hj0 hq6 dX5_principalsOf_32 ?_
      refine v_iadd C dX5_principalsOf_35 ?_
      refine v_istore_n C dX5_principalsOf_36 rfl (Nat.le_of_ble_eq_true rfl) (lc1 := [some (.ref (ad G 5 j0 0)), some (.int a1), some (.int (x3 + (σ2.1 99 j0 x4.toNatClampNeg))), some (.int x4)]) rfl ?_
      refine v_iinc C dX5_principalsOf_37 rfl (kc_1 _) (lc1 := [some (.ref (ad G 5 j0 0)), some (.int a1), some (.int (x3 + (σ2.1 99 j0 x4.toNatClampNeg))), some (.int (x4 + 1))]) rfl ?_
      refine v_goto C dX5_principalsOf_40 (tgt := 4) (by decide) ?_
      refine v_mask [true, true, true, true] (lc' := [some (.ref (ad G 5 j0 0)), some (.int a1), some (.int (x3 + (σ2.1 99 j0 x4.toNatClampNeg))), some (.int (x4 + 1))]) rfl ?_
      exact hrec1 _ _ _ h

def dc_X5_liveNotesOf (j0 : Nat) (a1 : Int32) (σ : Sto) : Option (Int32 × Sto) :=
  wh2 (fun (rec1 : Int32 → Int32 → Sto → Option (Int32 × Sto)) (x3 : Int32) (x4 : Int32) (σ2 : Sto) => (if (σ2.1 86 j0 0) ≤ x4 then some (x3, σ2) else (if inb x4 60 then (if (σ2.1 96 j0 x4.toNatClampNeg) = a1 then (if inb x4 60 then (if (σ2.1 99 j0 x4.toNatClampNeg) = 0 then rec1 x3 (x4 + 1) σ2 else rec1 (x3 + 1) (x4 + 1) σ2) else none) else rec1 x3 (x4 + 1) σ2) else none))) FU (0 : Int32) (0 : Int32) σ
set_option maxRecDepth 20000 in
set_option maxHeartbeats 4000000 in
theorem s_X5_liveNotesOf {G : Gm} {d : Nat} (j0 : Nat) (a1 : Int32) (hj0 : j0 < 7) {σ τ : Sto} {r : Int32} (h : dc_X5_liveNotesOf j0 a1 σ = some (r, τ)) : Cl G d m_X5_liveNotesOf [.ref (ad G 5 j0 0), .int a1] σ (some (.int r)) τ := by
  unfold dc_X5_liveNotesOf at h
  refine Cl.mk (cc := cX5_liveNotesOf) (own := RX5) (nL := 4) (ret := (some .int)) rfl rfl rfl rfl (by decide +kernel) (catA rfl) (Nat.le_of_ble_eq_true rfl) (fun X C => ?_)
  show V X G 0 0 (QE X G (some (.int r)) τ) σ 0 [some (.ref (ad G 5 j0 0)), some (.int a1), none, none] []
  refine v_iconst C dX5_liveNotesOf_0 ki_0 ?_
  refine v_istore_n C dX5_liveNotesOf_1 rfl (Nat.le_of_ble_eq_true rfl) (lc1 := [some (.ref (ad G 5 j0 0)), some (.int a1), some (.int (0 : Int32)), none]) rfl ?_
  refine v_iconst C dX5_liveNotesOf_2 ki_0 ?_
  refine v_istore_n C dX5_liveNotesOf_3 rfl (Nat.le_of_ble_eq_true rfl) (lc1 := [some (.ref (ad G 5 j0 0)), some (.int a1), some (.int (0 : Int32)), some (.int (0 : Int32))]) rfl ?_
  refine v_loop2 (fun x3 x4 σ2 => V X G 0 0 (QE X G (some (.int r)) τ) σ2 4 [some (.ref (ad G 5 j0 0)), some (.int a1), some (.int x3), some (.int x4)] []) (fun rec1 hrec1 x3 x4 σ2 h => ?_) h
  refine v_iload_n C dX5_liveNotesOf_4 rfl rfl ?_
  refine v_aload_n C dX5_liveNotesOf_5 rfl rfl ?_
  refine gf_X5_43 C hj0 dX5_liveNotesOf_6 ?_
  refine v_icmp_ge C dX5_liveNotesOf_9 (tgt := 46) (by decide) h (fun h => ?_) (fun h => ?_)
  · refine v_iload_n C dX5_liveNotesOf_46 rfl rfl ?_
    exact v_iret C dX5_liveNotesOf_47 h
  · refine v_aload_n C dX5_liveNotesOf_12 rfl rfl ?_
    refine gf_X5_25 C hj0 dX5_liveNotesOf_13 ?_
    refine v_iload_n C dX5_liveNotesOf_16 rfl rfl ?_
    refine lq_13 C hj0 dX5_liveNotesOf_17 h (fun h hq5 => ?_)
    refine gf_X5_131 C hj0 hq5 dX5_liveNotesOf_18 ?_
    refine v_iload_n C dX5_liveNotesOf_21 rfl rfl ?_
    refine v_icmp_ne C dX5_liveNotesOf_22 (tgt := 40) (by decide) h (fun h => ?_) (fun h => ?_)
    · refine v_iinc C dX5_liveNotesOf_40 rfl (kc_1 _) (lc1 := [some (.ref (ad G 5 j0 0)), some (.int a1), some (.int x3), some (.int (x4 + 1))]) rfl ?_
      refine v_goto C dX5_liveNotesOf_43 (tgt := 4) (by decide) ?_
      refine v_mask [true, true, true, true] (lc' := [some (.ref (ad G 5 j0 0)), some (.int a1), some (.int x3), some (.int (x4 + 1))]) rfl ?_
      exact hrec1 _ _ _ h
    · refine v_aload_n C dX5_liveNotesOf_25 rfl rfl ?_
      refine gf_X5_25 C hj0 dX5_liveNotesOf_26 ?_
      refine v_iload_n C dX5_liveNotesOf_29 rfl rfl ?_
      refine lq_13 C hj0 dX5_liveNotesOf_30 h (fun h hq6 => ?_)
      refine gf_X5_127 C hj0 hq6 dX5_liveNotesOf_31 ?_
      refine v_if_eq C dX5_liveNotesOf_34 (tgt := 40) (by decide) h (fun h => ?_) (fun h => ?_)
      · refine v_iinc C dX5_liveNotesOf_40 rfl (kc_1 _) (lc1 := [some (.ref (ad G 5 j0 0)), some (.int a1), some (.int x3), some (.int (x4 + 1))]) rfl ?_
        refine v_goto C dX5_liveNotesOf_43 (tgt := 4) (by decide) ?_
        refine v_mask [true, true, true, true] (lc' := [some (.ref (ad G 5 j0 0)), some (.int a1), some (.int x3), some (.int (x4 + 1))]) rfl ?_
        exact hrec1 _ _ _ h
      · refine v_iinc C dX5_liveNotesOf_37 rfl (kc_1 _) (lc1 := [some (.ref (ad G 5 j0 0)), some (.int a1), some (.int (x3 + 1)), some (.int x4)]) rfl ?_
        refine v_iinc C dX5_liveNotesOf_40 rfl (kc_1 _) (lc1 := [some (.ref (ad G 5 j0 0)), some (.int a1), some (.int (x3 + 1)), some (.int (x4 + 1))]) rfl ?_
        refine v_goto C dX5_liveNotesOf_43 (tgt := 4) (by decide) ?_
        refine v_mask [true, true, true, true] (lc' := [some (.ref (ad G 5 j0 0)), some (.int a1), some (.int (x3 + 1)), some (.int (x4 + 1))]) rfl ?_
        exact hrec1 _ _ _ h

def dc_X5_loansOf (j0 : Nat) (a1 : Int32) (σ : Sto) : Option (Int32 × Sto) :=
  wh2 (fun (rec1 : Int32 → Int32 → Sto → Option (Int32 × Sto)) (x3 : Int32) (x4 : Int32) (σ2 : Sto) => (if (σ2.1 86 j0 0) ≤ x4 then some (x3, σ2) else (if inb x4 60 then (if (σ2.1 96 j0 x4.toNatClampNeg) = a1 then (if inb x4 60 then (if (σ2.1 99 j0 x4.toNatClampNeg) = 0 then rec1 x3 (x4 + 1) σ2 else (if inb x4 60 then rec1 (x3 ||| ((1 : Int32) <<< ((σ2.1 97 j0 x4.toNatClampNeg) &&& 31))) (x4 + 1) σ2 else none)) else none) else rec1 x3 (x4 + 1) σ2) else none))) FU (0 : Int32) (0 : Int32) σ
set_option maxRecDepth 20000 in
set_option maxHeartbeats 4000000 in
theorem s_X5_loansOf {G : Gm} {d : Nat} (j0 : Nat) (a1 : Int32) (hj0 : j0 < 7) {σ τ : Sto} {r : Int32} (h : dc_X5_loansOf j0 a1 σ = some (r, τ)) : Cl G d m_X5_loansOf [.ref (ad G 5 j0 0), .int a1] σ (some (.int r)) τ := by
  unfold dc_X5_loansOf at h
  refine Cl.mk (cc := cX5_loansOf) (own := RX5) (nL := 4) (ret := (some .int)) rfl rfl rfl rfl (by decide +kernel) (catA rfl) (Nat.le_of_ble_eq_true rfl) (fun X C => ?_)
  show V X G 0 0 (QE X G (some (.int r)) τ) σ 0 [some (.ref (ad G 5 j0 0)), some (.int a1), none, none] []
  refine v_iconst C dX5_loansOf_0 ki_0 ?_
  refine v_istore_n C dX5_loansOf_1 rfl (Nat.le_of_ble_eq_true rfl) (lc1 := [some (.ref (ad G 5 j0 0)), some (.int a1), some (.int (0 : Int32)), none]) rfl ?_
  refine v_iconst C dX5_loansOf_2 ki_0 ?_
  refine v_istore_n C dX5_loansOf_3 rfl (Nat.le_of_ble_eq_true rfl) (lc1 := [some (.ref (ad G 5 j0 0)), some (.int a1), some (.int (0 : Int32)), some (.int (0 : Int32))]) rfl ?_
  refine v_loop2 (fun x3 x4 σ2 => V X G 0 0 (QE X G (some (.int r)) τ) σ2 4 [some (.ref (ad G 5 j0 0)), some (.int a1), some (.int x3), some (.int x4)] []) (fun rec1 hrec1 x3 x4 σ2 h => ?_) h
  refine v_iload_n C dX5_loansOf_4 rfl rfl ?_
  refine v_aload_n C dX5_loansOf_5 rfl rfl ?_
  refine gf_X5_43 C hj0 dX5_loansOf_6 ?_
  refine v_icmp_ge C dX5_loansOf_9 (tgt := 57) (by decide) h (fun h => ?_) (fun h => ?_)
  · refine v_iload_n C dX5_loansOf_57 rfl rfl ?_
    exact v_iret C dX5_loansOf_58 h
  · refine v_aload_n C dX5_loansOf_12 rfl rfl ?_
    refine gf_X5_25 C hj0 dX5_loansOf_13 ?_
    refine v_iload_n C dX5_loansOf_16 rfl rfl ?_
    refine lq_13 C hj0 dX5_loansOf_17 h (fun h hq5 => ?_)
    refine gf_X5_131 C hj0 hq5 dX5_loansOf_18 ?_
    refine v_iload_n C dX5_loansOf_21 rfl rfl ?_
    refine v_icmp_ne C dX5_loansOf_22 (tgt := 51) (by decide) h (fun h => ?_) (fun h => ?_)
    · refine v_iinc C dX5_loansOf_51 rfl (kc_1 _) (lc1 := [some (.ref (ad G 5 j0 0)), some (.int a1), some (.int x3), some (.int (x4 + 1))]) rfl ?_
      refine v_goto C dX5_loansOf_54 (tgt := 4) (by decide) ?_
      refine v_mask [true, true, true, true] (lc' := [some (.ref (ad G 5 j0 0)), some (.int a1), some (.int x3), some (.int (x4 + 1))]) rfl ?_
      exact hrec1 _ _ _ h
    · refine v_aload_n C dX5_loansOf_25 rfl rfl ?_
      refine gf_X5_25 C hj0 dX5_loansOf_26 ?_
      refine v_iload_n C dX5_loansOf_29 rfl rfl ?_
      refine lq_13 C hj0 dX5_loansOf_30 h (fun h hq6 => ?_)
      refine gf_X5_127 C hj0 hq6 dX5_loansOf_31 ?_
      refine v_if_eq C dX5_loansOf_34 (tgt := 51) (by decide) h (fun h => ?_) (fun h => ?_)
      · refine v_iinc C dX5_loansOf_51 rfl (kc_1 _) (lc1 := [some (.ref (ad G 5 j0 0)), some (.int a1), some (.int x3), some (.int (x4 + 1))]) rfl ?_
        refine v_goto C dX5_loansOf_54 (tgt := 4) (by decide) ?_
        refine v_mask [true, true, true, true] (lc' := [some (.ref (ad G 5 j0 0)), some (.int a1), some (.int x3), some (.int (x4 + 1))]) rfl ?_
        exact hrec1 _ _ _ h
      · refine v_iload_n C dX5_loansOf_37 rfl rfl ?_
        refine v_iconst C dX5_loansOf_38 ki_1 ?_
        refine v_aload_n C dX5_loansOf_39 rfl rfl ?_
        refine gf_X5_25 C hj0 dX5_loansOf_40 ?_
        refine v_iload_n C dX5_loansOf_43 rfl rfl ?_
        refine lq_13 C hj0 dX5_loansOf_44 h (fun h hq7 => ?_)
        refine gf_X5_124 C hj0 hq7 dX5_loansOf_45 ?_
        refine v_ishl C dX5_loansOf_48 ?_
        refine v_ior C dX5_loansOf_49 ?_
        refine v_istore_n C dX5_loansOf_50 rfl (Nat.le_of_ble_eq_true rfl) (lc1 := [some (.ref (ad G 5 j0 0)), some (.int a1), some (.int (x3 ||| ((1 : Int32) <<< ((σ2.1 97 j0 x4.toNatClampNeg) &&& 31)))), some (.int x4)]) rfl ?_
        refine v_iinc C dX5_loansOf_51 rfl (kc_1 _) (lc1 := [some (.ref (ad G 5 j0 0)), some (.int a1), some (.int (x3 ||| ((1 : Int32) <<< ((σ2.1 97 j0 x4.toNatClampNeg) &&& 31)))), some (.int (x4 + 1))]) rfl ?_
        refine v_goto C dX5_loansOf_54 (tgt := 4) (by decide) ?_
        refine v_mask [true, true, true, true] (lc' := [some (.ref (ad G 5 j0 0)), some (.int a1), some (.int (x3 ||| ((1 : Int32) <<< ((σ2.1 97 j0 x4.toNatClampNeg) &&& 31)))), some (.int (x4 + 1))]) rfl ?_
        exact hrec1 _ _ _ h

def dc_X5_loansInState (j0 : Nat) (a1 : Int32) (σ : Sto) : Option (Int32 × Sto) :=
  wh2 (fun (rec1 : Int32 → Int32 → Sto → Option (Int32 × Sto)) (x3 : Int32) (x4 : Int32) (σ2 : Sto) => (if (σ2.1 85 j0 0) ≤ x4 then some (x3, σ2) else (if inb x4 10 then (if (σ2.1 64 j0 x4.toNatClampNeg) = a1 then rec1 (x3 + 1) (x4 + 1) σ2 else rec1 x3 (x4 + 1) σ2) else none))) FU (0 : Int32) (0 : Int32) σ
set_option maxRecDepth 20000 in
set_option maxHeartbeats 4000000 in
theorem s_X5_loansInState {G : Gm} {d : Nat} (j0 : Nat) (a1 : Int32) (hj0 : j0 < 7) {σ τ : Sto} {r : Int32} (h : dc_X5_loansInState j0 a1 σ = some (r, τ)) : Cl G d m_X5_loansInState [.ref (ad G 5 j0 0), .int a1] σ (some (.int r)) τ := by
  unfold dc_X5_loansInState at h
  refine Cl.mk (cc := cX5_loansInState) (own := RX5) (nL := 4) (ret := (some .int)) rfl rfl rfl rfl (by decide +kernel) (catA rfl) (Nat.le_of_ble_eq_true rfl) (fun X C => ?_)
  show V X G 0 0 (QE X G (some (.int r)) τ) σ 0 [some (.ref (ad G 5 j0 0)), some (.int a1), none, none] []
  refine v_iconst C dX5_loansInState_0 ki_0 ?_
  refine v_istore_n C dX5_loansInState_1 rfl (Nat.le_of_ble_eq_true rfl) (lc1 := [some (.ref (ad G 5 j0 0)), some (.int a1), some (.int (0 : Int32)), none]) rfl ?_
  refine v_iconst C dX5_loansInState_2 ki_0 ?_
  refine v_istore_n C dX5_loansInState_3 rfl (Nat.le_of_ble_eq_true rfl) (lc1 := [some (.ref (ad G 5 j0 0)), some (.int a1), some (.int (0 : Int32)), some (.int (0 : Int32))]) rfl ?_
  refine v_loop2 (fun x3 x4 σ2 => V X G 0 0 (QE X G (some (.int r)) τ) σ2 4 [some (.ref (ad G 5 j0 0)), some (.int a1), some (.int x3), some (.int x4)] []) (fun rec1 hrec1 x3 x4 σ2 h => ?_) h
  refine v_iload_n C dX5_loansInState_4 rfl rfl ?_
  refine v_aload_n C dX5_loansInState_5 rfl rfl ?_
  refine gf_X5_40 C hj0 dX5_loansInState_6 ?_
  refine v_icmp_ge C dX5_loansInState_9 (tgt := 34) (by decide) h (fun h => ?_) (fun h => ?_)
  · refine v_iload_n C dX5_loansInState_34 rfl rfl ?_
    exact v_iret C dX5_loansInState_35 h
  · refine v_aload_n C dX5_loansInState_12 rfl rfl ?_
    refine gf_X5_19 C hj0 dX5_loansInState_13 ?_
    refine v_iload_n C dX5_loansInState_16 rfl rfl ?_
    refine lq_12 C hj0 dX5_loansInState_17 h (fun h hq5 => ?_)
    refine gf_X5_72 C hj0 hq5 dX5_loansInState_18 ?_
    refine v_iload_n C dX5_loansInState_21 rfl rfl ?_
    refine v_icmp_ne C dX5_loansInState_22 (tgt := 28) (by decide) h (fun h => ?_) (fun h => ?_)
    · refine v_iinc C dX5_loansInState_28 rfl (kc_1 _) (lc1 := [some (.ref (ad G 5 j0 0)), some (.int a1), some (.int x3), some (.int (x4 + 1))]) rfl ?_
      refine v_goto C dX5_loansInState_31 (tgt := 4) (by decide) ?_
      refine v_mask [true, true, true, true] (lc' := [some (.ref (ad G 5 j0 0)), some (.int a1), some (.int x3), some (.int (x4 + 1))]) rfl ?_
      exact hrec1 _ _ _ h
    · refine v_iinc C dX5_loansInState_25 rfl (kc_1 _) (lc1 := [some (.ref (ad G 5 j0 0)), some (.int a1), some (.int (x3 + 1)), some (.int x4)]) rfl ?_
      refine v_iinc C dX5_loansInState_28 rfl (kc_1 _) (lc1 := [some (.ref (ad G 5 j0 0)), some (.int a1), some (.int (x3 + 1)), some (.int (x4 + 1))]) rfl ?_
      refine v_goto C dX5_loansInState_31 (tgt := 4) (by decide) ?_
      refine v_mask [true, true, true, true] (lc' := [some (.ref (ad G 5 j0 0)), some (.int a1), some (.int (x3 + 1)), some (.int (x4 + 1))]) rfl ?_
      exact hrec1 _ _ _ h

def dc_X5_loansServedBy (j0 : Nat) (a1 : Int32) (σ : Sto) : Option (Int32 × Sto) :=
  wh2 (fun (rec1 : Int32 → Int32 → Sto → Option (Int32 × Sto)) (x3 : Int32) (x4 : Int32) (σ2 : Sto) => (if (σ2.1 85 j0 0) ≤ x4 then some (x3, σ2) else (bd (dc_X5_runs j0 x4 σ2) fun r5 σ6 => (if r5 = 0 then rec1 x3 (x4 + 1) σ6 else (if inb x4 10 then (if (σ6.1 73 j0 x4.toNatClampNeg) = a1 then rec1 (x3 + 1) (x4 + 1) σ6 else rec1 x3 (x4 + 1) σ6) else none))))) FU (0 : Int32) (0 : Int32) σ
set_option maxRecDepth 20000 in
set_option maxHeartbeats 4000000 in
theorem s_X5_loansServedBy {G : Gm} {d : Nat} (j0 : Nat) (a1 : Int32) (hj0 : j0 < 7) {σ τ : Sto} {r : Int32} (h : dc_X5_loansServedBy j0 a1 σ = some (r, τ)) : Cl G (d + 2) m_X5_loansServedBy [.ref (ad G 5 j0 0), .int a1] σ (some (.int r)) τ := by
  unfold dc_X5_loansServedBy at h
  refine Cl.mk (cc := cX5_loansServedBy) (own := RX5) (nL := 4) (ret := (some .int)) rfl rfl rfl rfl (by decide +kernel) (catA rfl) (Nat.le_of_ble_eq_true rfl) (fun X C => ?_)
  show V X G 0 0 (QE X G (some (.int r)) τ) σ 0 [some (.ref (ad G 5 j0 0)), some (.int a1), none, none] []
  refine v_iconst C dX5_loansServedBy_0 ki_0 ?_
  refine v_istore_n C dX5_loansServedBy_1 rfl (Nat.le_of_ble_eq_true rfl) (lc1 := [some (.ref (ad G 5 j0 0)), some (.int a1), some (.int (0 : Int32)), none]) rfl ?_
  refine v_iconst C dX5_loansServedBy_2 ki_0 ?_
  refine v_istore_n C dX5_loansServedBy_3 rfl (Nat.le_of_ble_eq_true rfl) (lc1 := [some (.ref (ad G 5 j0 0)), some (.int a1), some (.int (0 : Int32)), some (.int (0 : Int32))]) rfl ?_
  refine v_loop2 (fun x3 x4 σ2 => V X G 0 0 (QE X G (some (.int r)) τ) σ2 4 [some (.ref (ad G 5 j0 0)), some (.int a1), some (.int x3), some (.int x4)] []) (fun rec1 hrec1 x3 x4 σ2 h => ?_) h
  refine v_iload_n C dX5_loansServedBy_4 rfl rfl ?_
  refine v_aload_n C dX5_loansServedBy_5 rfl rfl ?_
  refine gf_X5_40 C hj0 dX5_loansServedBy_6 ?_
  refine v_icmp_ge C dX5_loansServedBy_9 (tgt := 42) (by decide) h (fun h => ?_) (fun h => ?_)
  · refine v_iload_n C dX5_loansServedBy_42 rfl rfl ?_
    exact v_iret C dX5_loansServedBy_43 h
  · refine v_aload_n C dX5_loansServedBy_12 rfl rfl ?_
    refine v_iload_n C dX5_loansServedBy_13 rfl rfl ?_
    refine cVi C 5 j0 0 (av := [.int x4]) si_X5_runs lk_X5_137 (ok5 hj0) rfl rfl rfl rfl (st := []) rfl (Nat.le_of_ble_eq_true rfl) dX5_loansServedBy_14 h (fun _ _ hc => s_X5_runs (d := d) j0 x4 hj0 hc) (fun r5 σ6 h => ?_)
    refine v_if_eq C dX5_loansServedBy_17 (tgt := 36) (by decide) h (fun h => ?_) (fun h => ?_)
    · refine v_iinc C dX5_loansServedBy_36 rfl (kc_1 _) (lc1 := [some (.ref (ad G 5 j0 0)), some (.int a1), some (.int x3), some (.int (x4 + 1))]) rfl ?_
      refine v_goto C dX5_loansServedBy_39 (tgt := 4) (by decide) ?_
      refine v_mask [true, true, true, true] (lc' := [some (.ref (ad G 5 j0 0)), some (.int a1), some (.int x3), some (.int (x4 + 1))]) rfl ?_
      exact hrec1 _ _ _ h
    · refine v_aload_n C dX5_loansServedBy_20 rfl rfl ?_
      refine gf_X5_19 C hj0 dX5_loansServedBy_21 ?_
      refine v_iload_n C dX5_loansServedBy_24 rfl rfl ?_
      refine lq_12 C hj0 dX5_loansServedBy_25 h (fun h hq7 => ?_)
      refine gf_X5_101 C hj0 hq7 dX5_loansServedBy_26 ?_
      refine v_iload_n C dX5_loansServedBy_29 rfl rfl ?_
      refine v_icmp_ne C dX5_loansServedBy_30 (tgt := 36) (by decide) h (fun h => ?_) (fun h => ?_)
      · refine v_iinc C dX5_loansServedBy_36 rfl (kc_1 _) (lc1 := [some (.ref (ad G 5 j0 0)), some (.int a1), some (.int x3), some (.int (x4 + 1))]) rfl ?_
        refine v_goto C dX5_loansServedBy_39 (tgt := 4) (by decide) ?_
        refine v_mask [true, true, true, true] (lc' := [some (.ref (ad G 5 j0 0)), some (.int a1), some (.int x3), some (.int (x4 + 1))]) rfl ?_
        exact hrec1 _ _ _ h
      · refine v_iinc C dX5_loansServedBy_33 rfl (kc_1 _) (lc1 := [some (.ref (ad G 5 j0 0)), some (.int a1), some (.int (x3 + 1)), some (.int x4)]) rfl ?_
        refine v_iinc C dX5_loansServedBy_36 rfl (kc_1 _) (lc1 := [some (.ref (ad G 5 j0 0)), some (.int a1), some (.int (x3 + 1)), some (.int (x4 + 1))]) rfl ?_
        refine v_goto C dX5_loansServedBy_39 (tgt := 4) (by decide) ?_
        refine v_mask [true, true, true, true] (lc' := [some (.ref (ad G 5 j0 0)), some (.int a1), some (.int (x3 + 1)), some (.int (x4 + 1))]) rfl ?_
        exact hrec1 _ _ _ h

def dc_X5_loansInArrears (j0 : Nat) (σ : Sto) : Option (Int32 × Sto) :=
  wh2 (fun (rec1 : Int32 → Int32 → Sto → Option (Int32 × Sto)) (x3 : Int32) (x4 : Int32) (σ2 : Sto) => (if (σ2.1 85 j0 0) ≤ x4 then some (x3, σ2) else (if inb x4 10 then (if (σ2.1 72 j0 x4.toNatClampNeg) ≤ 0 then rec1 x3 (x4 + 1) σ2 else rec1 (x3 + 1) (x4 + 1) σ2) else none))) FU (0 : Int32) (0 : Int32) σ
set_option maxRecDepth 20000 in
set_option maxHeartbeats 4000000 in
theorem s_X5_loansInArrears {G : Gm} {d : Nat} (j0 : Nat) (hj0 : j0 < 7) {σ τ : Sto} {r : Int32} (h : dc_X5_loansInArrears j0 σ = some (r, τ)) : Cl G d m_X5_loansInArrears [.ref (ad G 5 j0 0)] σ (some (.int r)) τ := by
  unfold dc_X5_loansInArrears at h
  refine Cl.mk (cc := cX5_loansInArrears) (own := RX5) (nL := 3) (ret := (some .int)) rfl rfl rfl rfl (by decide +kernel) (catA rfl) (Nat.le_of_ble_eq_true rfl) (fun X C => ?_)
  show V X G 0 0 (QE X G (some (.int r)) τ) σ 0 [some (.ref (ad G 5 j0 0)), none, none] []
  refine v_iconst C dX5_loansInArrears_0 ki_0 ?_
  refine v_istore_n C dX5_loansInArrears_1 rfl (Nat.le_of_ble_eq_true rfl) (lc1 := [some (.ref (ad G 5 j0 0)), some (.int (0 : Int32)), none]) rfl ?_
  refine v_iconst C dX5_loansInArrears_2 ki_0 ?_
  refine v_istore_n C dX5_loansInArrears_3 rfl (Nat.le_of_ble_eq_true rfl) (lc1 := [some (.ref (ad G 5 j0 0)), some (.int (0 : Int32)), some (.int (0 : Int32))]) rfl ?_
  refine v_loop2 (fun x3 x4 σ2 => V X G 0 0 (QE X G (some (.int r)) τ) σ2 4 [some (.ref (ad G 5 j0 0)), some (.int x3), some (.int x4)] []) (fun rec1 hrec1 x3 x4 σ2 h => ?_) h
  refine v_iload_n C dX5_loansInArrears_4 rfl rfl ?_
  refine v_aload_n C dX5_loansInArrears_5 rfl rfl ?_
  refine gf_X5_40 C hj0 dX5_loansInArrears_6 ?_
  refine v_icmp_ge C dX5_loansInArrears_9 (tgt := 33) (by decide) h (fun h => ?_) (fun h => ?_)
  · refine v_iload_n C dX5_loansInArrears_33 rfl rfl ?_
    exact v_iret C dX5_loansInArrears_34 h
  · refine v_aload_n C dX5_loansInArrears_12 rfl rfl ?_
    refine gf_X5_19 C hj0 dX5_loansInArrears_13 ?_
    refine v_iload_n C dX5_loansInArrears_16 rfl rfl ?_
    refine lq_12 C hj0 dX5_loansInArrears_17 h (fun h hq5 => ?_)
    refine gf_X5_153 C hj0 hq5 dX5_loansInArrears_18 ?_
    refine v_if_le C dX5_loansInArrears_21 (tgt := 27) (by decide) h (fun h => ?_) (fun h => ?_)
    · refine v_iinc C dX5_loansInArrears_27 rfl (kc_1 _) (lc1 := [some (.ref (ad G 5 j0 0)), some (.int x3), some (.int (x4 + 1))]) rfl ?_
      refine v_goto C dX5_loansInArrears_30 (tgt := 4) (by decide) ?_
      refine v_mask [true, true, true] (lc' := [some (.ref (ad G 5 j0 0)), some (.int x3), some (.int (x4 + 1))]) rfl ?_
      exact hrec1 _ _ _ h
    · refine v_iinc C dX5_loansInArrears_24 rfl (kc_1 _) (lc1 := [some (.ref (ad G 5 j0 0)), some (.int (x3 + 1)), some (.int x4)]) rfl ?_
      refine v_iinc C dX5_loansInArrears_27 rfl (kc_1 _) (lc1 := [some (.ref (ad G 5 j0 0)), some (.int (x3 + 1)), some (.int (x4 + 1))]) rfl ?_
      refine v_goto C dX5_loansInArrears_30 (tgt := 4) (by decide) ?_
      refine v_mask [true, true, true] (lc' := [some (.ref (ad G 5 j0 0)), some (.int (x3 + 1)), some (.int (x4 + 1))]) rfl ?_
      exact hrec1 _ _ _ h

def dc_X5_ordersOfSwitches (j0 : Nat) (σ : Sto) : Option (Int32 × Sto) :=
  wh2 (fun (rec1 : Int32 → Int32 → Sto → Option (Int32 × Sto)) (x3 : Int32) (x4 : Int32) (σ2 : Sto) => (if (σ2.1 85 j0 0) ≤ x4 then some (x3, σ2) else (if inb x4 10 then (if (σ2.1 74 j0 x4.toNatClampNeg) = (-5 : Int32) then rec1 x3 (x4 + 1) σ2 else rec1 (x3 + 1) (x4 + 1) σ2) else none))) FU (0 : Int32) (0 : Int32) σ
set_option maxRecDepth 20000 in
set_option maxHeartbeats 4000000 in
theorem s_X5_ordersOfSwitches {G : Gm} {d : Nat} (j0 : Nat) (hj0 : j0 < 7) {σ τ : Sto} {r : Int32} (h : dc_X5_ordersOfSwitches j0 σ = some (r, τ)) : Cl G d m_X5_ordersOfSwitches [.ref (ad G 5 j0 0)] σ (some (.int r)) τ := by
  unfold dc_X5_ordersOfSwitches at h
  refine Cl.mk (cc := cX5_ordersOfSwitches) (own := RX5) (nL := 3) (ret := (some .int)) rfl rfl rfl rfl (by decide +kernel) (catA rfl) (Nat.le_of_ble_eq_true rfl) (fun X C => ?_)
  show V X G 0 0 (QE X G (some (.int r)) τ) σ 0 [some (.ref (ad G 5 j0 0)), none, none] []
  refine v_iconst C dX5_ordersOfSwitches_0 ki_0 ?_
  refine v_istore_n C dX5_ordersOfSwitches_1 rfl (Nat.le_of_ble_eq_true rfl) (lc1 := [some (.ref (ad G 5 j0 0)), some (.int (0 : Int32)), none]) rfl ?_
  refine v_iconst C dX5_ordersOfSwitches_2 ki_0 ?_
  refine v_istore_n C dX5_ordersOfSwitches_3 rfl (Nat.le_of_ble_eq_true rfl) (lc1 := [some (.ref (ad G 5 j0 0)), some (.int (0 : Int32)), some (.int (0 : Int32))]) rfl ?_
  refine v_loop2 (fun x3 x4 σ2 => V X G 0 0 (QE X G (some (.int r)) τ) σ2 4 [some (.ref (ad G 5 j0 0)), some (.int x3), some (.int x4)] []) (fun rec1 hrec1 x3 x4 σ2 h => ?_) h
  refine v_iload_n C dX5_ordersOfSwitches_4 rfl rfl ?_
  refine v_aload_n C dX5_ordersOfSwitches_5 rfl rfl ?_
  refine gf_X5_40 C hj0 dX5_ordersOfSwitches_6 ?_
  refine v_icmp_ge C dX5_ordersOfSwitches_9 (tgt := 35) (by decide) h (fun h => ?_) (fun h => ?_)
  · refine v_iload_n C dX5_ordersOfSwitches_35 rfl rfl ?_
    exact v_iret C dX5_ordersOfSwitches_36 h
  · refine v_aload_n C dX5_ordersOfSwitches_12 rfl rfl ?_
    refine gf_X5_19 C hj0 dX5_ordersOfSwitches_13 ?_
    refine v_iload_n C dX5_ordersOfSwitches_16 rfl rfl ?_
    refine lq_12 C hj0 dX5_ordersOfSwitches_17 h (fun h hq5 => ?_)
    refine gf_X5_156 C hj0 hq5 dX5_ordersOfSwitches_18 ?_
    refine v_bipush C dX5_ordersOfSwitches_21 kb_m5 ?_
    refine v_icmp_eq C dX5_ordersOfSwitches_23 (tgt := 29) (by decide) h (fun h => ?_) (fun h => ?_)
    · refine v_iinc C dX5_ordersOfSwitches_29 rfl (kc_1 _) (lc1 := [some (.ref (ad G 5 j0 0)), some (.int x3), some (.int (x4 + 1))]) rfl ?_
      refine v_goto C dX5_ordersOfSwitches_32 (tgt := 4) (by decide) ?_
      refine v_mask [true, true, true] (lc' := [some (.ref (ad G 5 j0 0)), some (.int x3), some (.int (x4 + 1))]) rfl ?_
      exact hrec1 _ _ _ h
    · refine v_iinc C dX5_ordersOfSwitches_26 rfl (kc_1 _) (lc1 := [some (.ref (ad G 5 j0 0)), some (.int (x3 + 1)), some (.int x4)]) rfl ?_
      refine v_iinc C dX5_ordersOfSwitches_29 rfl (kc_1 _) (lc1 := [some (.ref (ad G 5 j0 0)), some (.int (x3 + 1)), some (.int (x4 + 1))]) rfl ?_
      refine v_goto C dX5_ordersOfSwitches_32 (tgt := 4) (by decide) ?_
      refine v_mask [true, true, true] (lc' := [some (.ref (ad G 5 j0 0)), some (.int (x3 + 1)), some (.int (x4 + 1))]) rfl ?_
      exact hrec1 _ _ _ h

def dc_X5_allPrincipals (j0 : Nat) (σ : Sto) : Option (Int32 × Sto) :=
  wh2 (fun (rec1 : Int32 → Int32 → Sto → Option (Int32 × Sto)) (x3 : Int32) (x4 : Int32) (σ2 : Sto) => (if (σ2.1 85 j0 0) ≤ x4 then some (x3, σ2) else (if inb x4 10 then rec1 (x3 + (σ2.1 68 j0 x4.toNatClampNeg)) (x4 + 1) σ2 else none))) FU (0 : Int32) (0 : Int32) σ
set_option maxRecDepth 20000 in
set_option maxHeartbeats 4000000 in
theorem s_X5_allPrincipals {G : Gm} {d : Nat} (j0 : Nat) (hj0 : j0 < 7) {σ τ : Sto} {r : Int32} (h : dc_X5_allPrincipals j0 σ = some (r, τ)) : Cl G d m_X5_allPrincipals [.ref (ad G 5 j0 0)] σ (some (.int r)) τ := by
  unfold dc_X5_allPrincipals at h
  refine Cl.mk (cc := cX5_allPrincipals) (own := RX5) (nL := 3) (ret := (some .int)) rfl rfl rfl rfl (by decide +kernel) (catA rfl) (Nat.le_of_ble_eq_true rfl) (fun X C => ?_)
  show V X G 0 0 (QE X G (some (.int r)) τ) σ 0 [some (.ref (ad G 5 j0 0)), none, none] []
  refine v_iconst C dX5_allPrincipals_0 ki_0 ?_
  refine v_istore_n C dX5_allPrincipals_1 rfl (Nat.le_of_ble_eq_true rfl) (lc1 := [some (.ref (ad G 5 j0 0)), some (.int (0 : Int32)), none]) rfl ?_
  refine v_iconst C dX5_allPrincipals_2 ki_0 ?_
  refine v_istore_n C dX5_allPrincipals_3 rfl (Nat.le_of_ble_eq_true rfl) (lc1 := [some (.ref (ad G 5 j0 0)), some (.int (0 : Int32)), some (.int (0 : Int32))]) rfl ?_
  refine v_loop2 (fun x3 x4 σ2 => V X G 0 0 (QE X G (some (.int r)) τ) σ2 4 [some (.ref (ad G 5 j0 0)), some (.int x3), some (.int x4)] []) (fun rec1 hrec1 x3 x4 σ2 h => ?_) h
  refine v_iload_n C dX5_allPrincipals_4 rfl rfl ?_
  refine v_aload_n C dX5_allPrincipals_5 rfl rfl ?_
  refine gf_X5_40 C hj0 dX5_allPrincipals_6 ?_
  refine v_icmp_ge C dX5_allPrincipals_9 (tgt := 30) (by decide) h (fun h => ?_) (fun h => ?_)
  · refine v_iload_n C dX5_allPrincipals_30 rfl rfl ?_
    exact v_iret C dX5_allPrincipals_31 h
  · refine v_iload_n C dX5_allPrincipals_12 rfl rfl ?_
    refine v_aload_n C dX5_allPrincipals_13 rfl rfl ?_
    refine gf_X5_19 C hj0 dX5_allPrincipals_14 ?_
    refine v_iload_n C dX5_allPrincipals_17 rfl rfl ?_
    refine lq_12 C hj0 dX5_allPrincipals_18 h (fun h hq5 => ?_)
    refine gf_X5_159 C hj0 hq5 dX5_allPrincipals_19 ?_
    refine v_iadd C dX5_allPrincipals_22 ?_
    refine v_istore_n C dX5_allPrincipals_23 rfl (Nat.le_of_ble_eq_true rfl) (lc1 := [some (.ref (ad G 5 j0 0)), some (.int (x3 + (σ2.1 68 j0 x4.toNatClampNeg))), some (.int x4)]) rfl ?_
    refine v_iinc C dX5_allPrincipals_24 rfl (kc_1 _) (lc1 := [some (.ref (ad G 5 j0 0)), some (.int (x3 + (σ2.1 68 j0 x4.toNatClampNeg))), some (.int (x4 + 1))]) rfl ?_
    refine v_goto C dX5_allPrincipals_27 (tgt := 4) (by decide) ?_
    refine v_mask [true, true, true] (lc' := [some (.ref (ad G 5 j0 0)), some (.int (x3 + (σ2.1 68 j0 x4.toNatClampNeg))), some (.int (x4 + 1))]) rfl ?_
    exact hrec1 _ _ _ h

def dc_X5_allInterestDue (j0 : Nat) (σ : Sto) : Option (Int32 × Sto) :=
  wh2 (fun (rec1 : Int32 → Int32 → Sto → Option (Int32 × Sto)) (x3 : Int32) (x4 : Int32) (σ2 : Sto) => (if (σ2.1 85 j0 0) ≤ x4 then some (x3, σ2) else (if inb x4 10 then rec1 (x3 + (σ2.1 70 j0 x4.toNatClampNeg)) (x4 + 1) σ2 else none))) FU (0 : Int32) (0 : Int32) σ
set_option maxRecDepth 20000 in
set_option maxHeartbeats 4000000 in
theorem s_X5_allInterestDue {G : Gm} {d : Nat} (j0 : Nat) (hj0 : j0 < 7) {σ τ : Sto} {r : Int32} (h : dc_X5_allInterestDue j0 σ = some (r, τ)) : Cl G d m_X5_allInterestDue [.ref (ad G 5 j0 0)] σ (some (.int r)) τ := by
  unfold dc_X5_allInterestDue at h
  refine Cl.mk (cc := cX5_allInterestDue) (own := RX5) (nL := 3) (ret := (some .int)) rfl rfl rfl rfl (by decide +kernel) (catA rfl) (Nat.le_of_ble_eq_true rfl) (fun X C => ?_)
  show V X G 0 0 (QE X G (some (.int r)) τ) σ 0 [some (.ref (ad G 5 j0 0)), none, none] []
  refine v_iconst C dX5_allInterestDue_0 ki_0 ?_
  refine v_istore_n C dX5_allInterestDue_1 rfl (Nat.le_of_ble_eq_true rfl) (lc1 := [some (.ref (ad G 5 j0 0)), some (.int (0 : Int32)), none]) rfl ?_
  refine v_iconst C dX5_allInterestDue_2 ki_0 ?_
  refine v_istore_n C dX5_allInterestDue_3 rfl (Nat.le_of_ble_eq_true rfl) (lc1 := [some (.ref (ad G 5 j0 0)), some (.int (0 : Int32)), some (.int (0 : Int32))]) rfl ?_
  refine v_loop2 (fun x3 x4 σ2 => V X G 0 0 (QE X G (some (.int r)) τ) σ2 4 [some (.ref (ad G 5 j0 0)), some (.int x3), some (.int x4)] []) (fun rec1 hrec1 x3 x4 σ2 h => ?_) h
  refine v_iload_n C dX5_allInterestDue_4 rfl rfl ?_
  refine v_aload_n C dX5_allInterestDue_5 rfl rfl ?_
  refine gf_X5_40 C hj0 dX5_allInterestDue_6 ?_
  refine v_icmp_ge C dX5_allInterestDue_9 (tgt := 30) (by decide) h (fun h => ?_) (fun h => ?_)
  · refine v_iload_n C dX5_allInterestDue_30 rfl rfl ?_
    exact v_iret C dX5_allInterestDue_31 h
  · refine v_iload_n C dX5_allInterestDue_12 rfl rfl ?_
    refine v_aload_n C dX5_allInterestDue_13 rfl rfl ?_
    refine gf_X5_19 C hj0 dX5_allInterestDue_14 ?_
    refine v_iload_n C dX5_allInterestDue_17 rfl rfl ?_
    refine lq_12 C hj0 dX5_allInterestDue_18 h (fun h hq5 => ?_)
    refine gf_X5_160 C hj0 hq5 dX5_allInterestDue_19 ?_
    refine v_iadd C dX5_allInterestDue_22 ?_
    refine v_istore_n C dX5_allInterestDue_23 rfl (Nat.le_of_ble_eq_true rfl) (lc1 := [some (.ref (ad G 5 j0 0)), some (.int (x3 + (σ2.1 70 j0 x4.toNatClampNeg))), some (.int x4)]) rfl ?_
    refine v_iinc C dX5_allInterestDue_24 rfl (kc_1 _) (lc1 := [some (.ref (ad G 5 j0 0)), some (.int (x3 + (σ2.1 70 j0 x4.toNatClampNeg))), some (.int (x4 + 1))]) rfl ?_
    refine v_goto C dX5_allInterestDue_27 (tgt := 4) (by decide) ?_
    refine v_mask [true, true, true] (lc' := [some (.ref (ad G 5 j0 0)), some (.int (x3 + (σ2.1 70 j0 x4.toNatClampNeg))), some (.int (x4 + 1))]) rfl ?_
    exact hrec1 _ _ _ h

def dc_X5_allLosses (j0 : Nat) (σ : Sto) : Option (Int32 × Sto) :=
  wh2 (fun (rec1 : Int32 → Int32 → Sto → Option (Int32 × Sto)) (x3 : Int32) (x4 : Int32) (σ2 : Sto) => (if (σ2.1 86 j0 0) ≤ x4 then some (x3, σ2) else (if inb x4 60 then rec1 (x3 + (σ2.1 102 j0 x4.toNatClampNeg)) (x4 + 1) σ2 else none))) FU (0 : Int32) (0 : Int32) σ
set_option maxRecDepth 20000 in
set_option maxHeartbeats 4000000 in
theorem s_X5_allLosses {G : Gm} {d : Nat} (j0 : Nat) (hj0 : j0 < 7) {σ τ : Sto} {r : Int32} (h : dc_X5_allLosses j0 σ = some (r, τ)) : Cl G d m_X5_allLosses [.ref (ad G 5 j0 0)] σ (some (.int r)) τ := by
  unfold dc_X5_allLosses at h
  refine Cl.mk (cc := cX5_allLosses) (own := RX5) (nL := 3) (ret := (some .int)) rfl rfl rfl rfl (by decide +kernel) (catA rfl) (Nat.le_of_ble_eq_true rfl) (fun X C => ?_)
  show V X G 0 0 (QE X G (some (.int r)) τ) σ 0 [some (.ref (ad G 5 j0 0)), none, none] []
  refine v_iconst C dX5_allLosses_0 ki_0 ?_
  refine v_istore_n C dX5_allLosses_1 rfl (Nat.le_of_ble_eq_true rfl) (lc1 := [some (.ref (ad G 5 j0 0)), some (.int (0 : Int32)), none]) rfl ?_
  refine v_iconst C dX5_allLosses_2 ki_0 ?_
  refine v_istore_n C dX5_allLosses_3 rfl (Nat.le_of_ble_eq_true rfl) (lc1 := [some (.ref (ad G 5 j0 0)), some (.int (0 : Int32)), some (.int (0 : Int32))]) rfl ?_
  refine v_loop2 (fun x3 x4 σ2 => V X G 0 0 (QE X G (some (.int r)) τ) σ2 4 [some (.ref (ad G 5 j0 0)), some (.int x3), some (.int x4)] []) (fun rec1 hrec1 x3 x4 σ2 h => ?_) h
  refine v_iload_n C dX5_allLosses_4 rfl rfl ?_
  refine v_aload_n C dX5_allLosses_5 rfl rfl ?_
  refine gf_X5_43 C hj0 dX5_allLosses_6 ?_
  refine v_icmp_ge C dX5_allLosses_9 (tgt := 30) (by decide) h (fun h => ?_) (fun h => ?_)
  · refine v_iload_n C dX5_allLosses_30 rfl rfl ?_
    exact v_iret C dX5_allLosses_31 h
  · refine v_iload_n C dX5_allLosses_12 rfl rfl ?_
    refine v_aload_n C dX5_allLosses_13 rfl rfl ?_
    refine gf_X5_25 C hj0 dX5_allLosses_14 ?_
    refine v_iload_n C dX5_allLosses_17 rfl rfl ?_
    refine lq_13 C hj0 dX5_allLosses_18 h (fun h hq5 => ?_)
    refine gf_X5_128 C hj0 hq5 dX5_allLosses_19 ?_
    refine v_iadd C dX5_allLosses_22 ?_
    refine v_istore_n C dX5_allLosses_23 rfl (Nat.le_of_ble_eq_true rfl) (lc1 := [some (.ref (ad G 5 j0 0)), some (.int (x3 + (σ2.1 102 j0 x4.toNatClampNeg))), some (.int x4)]) rfl ?_
    refine v_iinc C dX5_allLosses_24 rfl (kc_1 _) (lc1 := [some (.ref (ad G 5 j0 0)), some (.int (x3 + (σ2.1 102 j0 x4.toNatClampNeg))), some (.int (x4 + 1))]) rfl ?_
    refine v_goto C dX5_allLosses_27 (tgt := 4) (by decide) ?_
    refine v_mask [true, true, true] (lc' := [some (.ref (ad G 5 j0 0)), some (.int (x3 + (σ2.1 102 j0 x4.toNatClampNeg))), some (.int (x4 + 1))]) rfl ?_
    exact hrec1 _ _ _ h

def dc_X9_feeOf (a0 : Int32) (σ : Sto) : Option (Int32 × Sto) :=
  (bd (dc_X9_isServicer a0 σ) fun r1 σ2 => (if r1 = 0 then some ((0 : Int32), σ2) else (if inb a0 4 then some (feeI a0.toNatClampNeg, σ2) else none)))
set_option maxRecDepth 20000 in
set_option maxHeartbeats 4000000 in
theorem s_X9_feeOf {G : Gm} {d : Nat} (a0 : Int32) {σ τ : Sto} {r : Int32} (h : dc_X9_feeOf a0 σ = some (r, τ)) : Cl G (d + 1) m_X9_feeOf [.int a0] σ (some (.int r)) τ := by
  unfold dc_X9_feeOf at h
  refine Cl.mk (cc := cX9_feeOf) (own := RX9) (nL := 1) (ret := (some .int)) rfl rfl rfl rfl (by decide +kernel) (catA rfl) (Nat.le_of_ble_eq_true rfl) (fun X C => ?_)
  show V X G 0 0 (QE X G (some (.int r)) τ) σ 0 [some (.int a0)] []
  refine v_iload_n C dX9_feeOf_0 rfl rfl ?_
  refine cSi C (av := [.int a0]) si_X9_isServicer lk_X9_184 rfl rfl (st := []) rfl (Nat.le_of_ble_eq_true rfl) dX9_feeOf_1 h (fun _ _ hc => s_X9_isServicer (d := d) a0  hc) (fun r1 σ2 h => ?_)
  refine v_if_eq C dX9_feeOf_4 (tgt := 15) (by decide) h (fun h => ?_) (fun h => ?_)
  · refine v_iconst C dX9_feeOf_15 ki_0 ?_
    exact v_iret C dX9_feeOf_16 h
  · refine v_fees C lk_X9_313 dX9_feeOf_7 ?_
    refine v_iload_n C dX9_feeOf_10 rfl rfl ?_
    refine v_feeld C dX9_feeOf_11 h (fun h => ?_)
    refine v_goto C dX9_feeOf_12 (tgt := 16) (by decide) ?_
    exact v_iret C dX9_feeOf_16 h

def dc_X7_areOf (j1 : Nat) (a2 : Int32) (a3 : Int32) (σ : Sto) : Option (Int32 × Sto) :=
  (bd (dc_X5_runs j1 a2 σ) fun r1 σ2 => (if r1 = 0 then some ((0 : Int32), σ2) else (if inb a2 10 then (bd (dc_X9_feeOf (σ2.1 73 j1 a2.toNatClampNeg) σ2) fun r4 σ5 => (if (a3 - ((up σ5 112 0 0 ((a3 * r4) / (1000 : Int32))).1 112 0 0)) ≤ (((up σ5 112 0 0 ((a3 * r4) / (1000 : Int32))).1 70 j1 a2.toNatClampNeg) + ((up σ5 112 0 0 ((a3 * r4) / (1000 : Int32))).1 68 j1 a2.toNatClampNeg)) then (lt (up (up σ5 112 0 0 ((a3 * r4) / (1000 : Int32))) 113 0 0 (jmin (a3 - ((up σ5 112 0 0 ((a3 * r4) / (1000 : Int32))).1 112 0 0)) ((up σ5 112 0 0 ((a3 * r4) / (1000 : Int32))).1 70 j1 a2.toNatClampNeg))) fun σ6 => (lt (up (up σ6 114 0 0 (((σ6.1 113 0 0) * (σ6.1 89 j1 0)) / (100 : Int32))) 115 0 0 ((a3 - ((up σ5 112 0 0 ((a3 * r4) / (1000 : Int32))).1 112 0 0)) - ((up σ6 114 0 0 (((σ6.1 113 0 0) * (σ6.1 89 j1 0)) / (100 : Int32))).1 113 0 0))) fun σ7 => (bd (dc_X5_principals j1 a2 (0 : Int32) σ7) fun r8 σ9 => (lt (up (up σ9 116 0 0 (jmin (σ7.1 115 0 0) r8)) 117 0 0 (((up σ9 116 0 0 (jmin (σ7.1 115 0 0) r8)).1 115 0 0) - ((up σ9 116 0 0 (jmin (σ7.1 115 0 0) r8)).1 116 0 0))) fun σ10 => some ((1 : Int32), σ10))))) else some ((0 : Int32), up σ5 112 0 0 ((a3 * r4) / (1000 : Int32))))) else none)))
set_option maxRecDepth 20000 in
set_option maxHeartbeats 4000000 in
theorem s_X7_areOf {G : Gm} {d : Nat} (j1 : Nat) (a2 : Int32) (a3 : Int32) (hj1 : j1 < 7) {σ τ : Sto} {r : Int32} (h : dc_X7_areOf j1 a2 a3 σ = some (r, τ)) : Cl G (d + 2) m_X7_areOf [.ref (ad G 7 0 0), .ref (ad G 5 j1 0), .int a2, .int a3] σ (some (.int r)) τ := by
  unfold dc_X7_areOf at h
  refine Cl.mk (cc := cX7_areOf) (own := RX7) (nL := 6) (ret := (some .boolean)) rfl rfl rfl rfl (by decide +kernel) (catA rfl) (Nat.le_of_ble_eq_true rfl) (fun X C => ?_)
  show V X G 0 0 (QE X G (some (.int r)) τ) σ 0 [some (.ref (ad G 7 0 0)), some (.ref (ad G 5 j1 0)), some (.int a2), some (.int a3), none, none] []
  refine v_aload_n C dX7_areOf_0 rfl rfl ?_
  refine v_iload_n C dX7_areOf_1 rfl rfl ?_
  refine cVi C 5 j1 0 (av := [.int a2]) si_X5_runs lk_X7_9 (ok5 hj1) rfl rfl rfl rfl (st := []) rfl (Nat.le_of_ble_eq_true rfl) dX7_areOf_2 h (fun _ _ hc => s_X5_runs (d := d) j1 a2 hj1 hc) (fun r1 σ2 h => ?_)
  refine v_if_ne C dX7_areOf_5 (tgt := 10) (by decide) h (fun h => ?_) (fun h => ?_)
  · refine v_aload_n C dX7_areOf_10 rfl rfl ?_
    refine gf_X7_15 C hj1 dX7_areOf_11 ?_
    refine v_iload_n C dX7_areOf_14 rfl rfl ?_
    refine lq_12 C hj1 dX7_areOf_15 h (fun h hq3 => ?_)
    refine v_astore C dX7_areOf_16 (Nat.le_of_ble_eq_true rfl) (lc1 := [some (.ref (ad G 7 0 0)), some (.ref (ad G 5 j1 0)), some (.int a2), some (.int a3), some (.ref (ad G 4 j1 a2.toNatClampNeg)), none]) rfl ?_
    refine v_aload_n C dX7_areOf_18 rfl rfl ?_
    refine v_iload_n C dX7_areOf_19 rfl rfl ?_
    refine v_aload C dX7_areOf_20 rfl ?_
    refine gf_X7_19 C hj1 hq3 dX7_areOf_22 ?_
    refine cSNi C (av := [.int (σ2.1 73 j1 a2.toNatClampNeg)]) si_X9_feeOf lk_X7_25 rfl rfl (st := [.int a3, .ref (ad G 7 0 0)]) rfl (Nat.le_of_ble_eq_true rfl) dX7_areOf_25 h (fun _ _ hc => s_X9_feeOf (d := d) (σ2.1 73 j1 a2.toNatClampNeg)  hc) (fun r4 σ5 h => ?_)
    refine v_imul C dX7_areOf_28 ?_
    refine v_sipush C dX7_areOf_29 ks_1000 ?_
    refine v_idiv C dX7_areOf_32 (by decide) ?_
    refine pf_X7_29 C dX7_areOf_33 ?_
    refine v_iload_n C dX7_areOf_36 rfl rfl ?_
    refine v_aload_n C dX7_areOf_37 rfl rfl ?_
    refine gf_X7_29 C dX7_areOf_38 ?_
    refine v_isub C dX7_areOf_41 ?_
    refine v_istore C dX7_areOf_42 (Nat.le_of_ble_eq_true rfl) (lc1 := [some (.ref (ad G 7 0 0)), some (.ref (ad G 5 j1 0)), some (.int a2), some (.int a3), some (.ref (ad G 4 j1 a2.toNatClampNeg)), some (.int (a3 - ((up σ5 112 0 0 ((a3 * r4) / (1000 : Int32))).1 112 0 0)))]) rfl ?_
    refine v_iload C dX7_areOf_44 rfl ?_
    refine v_aload C dX7_areOf_46 rfl ?_
    refine gf_X7_34 C hj1 hq3 dX7_areOf_48 ?_
    refine v_aload C dX7_areOf_51 rfl ?_
    refine gf_X7_37 C hj1 hq3 dX7_areOf_53 ?_
    refine v_iadd C dX7_areOf_56 ?_
    refine v_icmp_le C dX7_areOf_57 (tgt := 62) (by decide) h (fun h => ?_) (fun h => ?_)
    · refine v_aload_n C dX7_areOf_62 rfl rfl ?_
      refine v_iload C dX7_areOf_63 rfl ?_
      refine v_aload C dX7_areOf_65 rfl ?_
      refine gf_X7_34 C hj1 hq3 dX7_areOf_67 ?_
      refine v_mmin C lk_X7_40 mm_min1 mm_2 mm_min3 rfl (Nat.le_of_ble_eq_true rfl) dX7_areOf_70 ?_
      refine pf_X7_46 C dX7_areOf_73 ?_
      refine v_lt h (fun σ6 h => ?_)
      refine v_aload_n C dX7_areOf_76 rfl rfl ?_
      refine v_aload_n C dX7_areOf_77 rfl rfl ?_
      refine gf_X7_46 C dX7_areOf_78 ?_
      refine v_aload_n C dX7_areOf_81 rfl rfl ?_
      refine gf_X7_49 C hj1 dX7_areOf_82 ?_
      refine v_imul C dX7_areOf_85 ?_
      refine v_bipush C dX7_areOf_86 kb_100 ?_
      refine v_idiv C dX7_areOf_88 (by decide) ?_
      refine pf_X7_52 C dX7_areOf_89 ?_
      refine v_aload_n C dX7_areOf_92 rfl rfl ?_
      refine v_iload C dX7_areOf_93 rfl ?_
      refine v_aload_n C dX7_areOf_95 rfl rfl ?_
      refine gf_X7_46 C dX7_areOf_96 ?_
      refine v_isub C dX7_areOf_99 ?_
      refine pf_X7_55 C dX7_areOf_100 ?_
      refine v_lt h (fun σ7 h => ?_)
      refine v_aload_n C dX7_areOf_103 rfl rfl ?_
      refine v_aload_n C dX7_areOf_104 rfl rfl ?_
      refine gf_X7_55 C dX7_areOf_105 ?_
      refine v_aload_n C dX7_areOf_108 rfl rfl ?_
      refine v_iload_n C dX7_areOf_109 rfl rfl ?_
      refine v_iconst C dX7_areOf_110 ki_0 ?_
      refine cVi C 5 j1 0 (av := [.int a2, .int (0 : Int32)]) si_X5_principals lk_X7_56 (ok5 hj1) rfl rfl rfl rfl (st := [.int (σ7.1 115 0 0), .ref (ad G 7 0 0)]) rfl (Nat.le_of_ble_eq_true rfl) dX7_areOf_111 h (fun _ _ hc => s_X5_principals (d := (d + 1)) j1 a2 (0 : Int32) hj1 hc) (fun r8 σ9 h => ?_)
      refine v_mmin C lk_X7_40 mm_min1 mm_2 mm_min3 rfl (Nat.le_of_ble_eq_true rfl) dX7_areOf_114 ?_
      refine pf_X7_59 C dX7_areOf_117 ?_
      refine v_aload_n C dX7_areOf_120 rfl rfl ?_
      refine v_aload_n C dX7_areOf_121 rfl rfl ?_
      refine gf_X7_55 C dX7_areOf_122 ?_
      refine v_aload_n C dX7_areOf_125 rfl rfl ?_
      refine gf_X7_59 C dX7_areOf_126 ?_
      refine v_isub C dX7_areOf_129 ?_
      refine pf_X7_62 C dX7_areOf_130 ?_
      refine v_lt h (fun σ10 h => ?_)
      refine v_iconst C dX7_areOf_133 ki_1 ?_
      exact v_zretc C dX7_areOf_134 (nar01 (Or.inr rfl)) h
    · refine v_iconst C dX7_areOf_60 ki_0 ?_
      exact v_zretc C dX7_areOf_61 (nar01 (Or.inl rfl)) h
  · refine v_iconst C dX7_areOf_8 ki_0 ?_
    exact v_zretc C dX7_areOf_9 (nar01 (Or.inl rfl)) h

def dc_X8_clear  (σ : Sto) : Option Sto :=
  wh1 (fun (rec1 : Int32 → Sto → Option Sto) (x3 : Int32) (σ2 : Sto) => (if (60 : Int32) ≤ x3 then some σ2 else (if inb x3 60 then (if inb x3 60 then (lt (up (up σ2 288 0 x3.toNatClampNeg (0 : Int32)) 288 1 x3.toNatClampNeg (0 : Int32)) fun σ4 => (if inb x3 60 then rec1 (x3 + 1) (up σ4 288 2 x3.toNatClampNeg (0 : Int32)) else none)) else none) else none))) FU (0 : Int32) σ
set_option maxRecDepth 20000 in
set_option maxHeartbeats 4000000 in
theorem s_X8_clear {G : Gm} {d : Nat}  {σ τ : Sto} (h : dc_X8_clear  σ = some τ) : Cl G d m_X8_clear [.ref (ad G 8 0 0)] σ none τ := by
  unfold dc_X8_clear at h
  refine Cl.mk (cc := cX8_clear) (own := RX8) (nL := 2) (ret := none) rfl rfl rfl rfl (by decide +kernel) (catA rfl) (Nat.le_of_ble_eq_true rfl) (fun X C => ?_)
  show V X G 0 0 (QE X G none τ) σ 0 [some (.ref (ad G 8 0 0)), none] []
  refine v_iconst C dX8_clear_0 ki_0 ?_
  refine v_istore_n C dX8_clear_1 rfl (Nat.le_of_ble_eq_true rfl) (lc1 := [some (.ref (ad G 8 0 0)), some (.int (0 : Int32))]) rfl ?_
  refine v_loop1 (fun x3 σ2 => V X G 0 0 (QE X G none τ) σ2 2 [some (.ref (ad G 8 0 0)), some (.int x3)] []) (fun rec1 hrec1 x3 σ2 h => ?_) h
  refine v_iload_n C dX8_clear_2 rfl rfl ?_
  refine v_aload_n C dX8_clear_3 rfl rfl ?_
  refine gf_X8_18 C dX8_clear_4 ?_
  refine al_18 C (by decide) dX8_clear_7 ?_
  refine v_icmp_ge C dX8_clear_8 (tgt := 38) (by decide) h (fun h => ?_) (fun h => ?_)
  · exact v_vret C dX8_clear_38 h
  · refine v_aload_n C dX8_clear_11 rfl rfl ?_
    refine gf_X8_9 C dX8_clear_12 ?_
    refine v_iload_n C dX8_clear_15 rfl rfl ?_
    refine v_iconst C dX8_clear_16 ki_0 ?_
    refine as_18 C (by decide) dX8_clear_17 h (fun h => ?_)
    refine v_aload_n C dX8_clear_18 rfl rfl ?_
    refine gf_X8_15 C dX8_clear_19 ?_
    refine v_iload_n C dX8_clear_22 rfl rfl ?_
    refine v_iconst C dX8_clear_23 ki_0 ?_
    refine as_18 C (by decide) dX8_clear_24 h (fun h => ?_)
    refine v_lt h (fun σ4 h => ?_)
    refine v_aload_n C dX8_clear_25 rfl rfl ?_
    refine gf_X8_18 C dX8_clear_26 ?_
    refine v_iload_n C dX8_clear_29 rfl rfl ?_
    refine v_iconst C dX8_clear_30 ki_0 ?_
    refine as_18 C (by decide) dX8_clear_31 h (fun h => ?_)
    refine v_iinc C dX8_clear_32 rfl (kc_1 _) (lc1 := [some (.ref (ad G 8 0 0)), some (.int (x3 + 1))]) rfl ?_
    refine v_goto C dX8_clear_35 (tgt := 2) (by decide) ?_
    refine v_mask [true, true] (lc' := [some (.ref (ad G 8 0 0)), some (.int (x3 + 1))]) rfl ?_
    exact hrec1 _ _ h

def dc_X8_weighPrincipals (j1 : Nat) (a2 : Int32) (a3 : Int32) (a4 : Int32) (σ : Sto) : Option Sto :=
  wh1 (fun (rec1 : Int32 → Sto → Option Sto) (x3 : Int32) (σ2 : Sto) => (if (σ2.1 86 j1 0) ≤ x3 then some σ2 else (if inb x3 60 then jn (fun (v5 : Int32) => (if v5 = 0 then (if inb x3 60 then rec1 (x3 + 1) (up σ2 288 2 x3.toNatClampNeg (0 : Int32)) else none) else (if inb x3 60 then rec1 (x3 + 1) (up σ2 288 2 x3.toNatClampNeg (σ2.1 99 j1 x3.toNatClampNeg)) else none))) (fun k6 => (if (σ2.1 97 j1 x3.toNatClampNeg) = a2 then (if (σ2.1 98 j1 x3.toNatClampNeg) = 0 then (if a3 = 0 then k6 (0 : Int32) else k6 (1 : Int32)) else (if a4 = 0 then k6 (0 : Int32) else k6 (1 : Int32))) else k6 (0 : Int32))) else none))) FU (0 : Int32) σ
set_option maxRecDepth 20000 in
set_option maxHeartbeats 4000000 in
theorem s_X8_weighPrincipals {G : Gm} {d : Nat} (j1 : Nat) (a2 : Int32) (a3 : Int32) (a4 : Int32) (hj1 : j1 < 7) {σ τ : Sto} (h : dc_X8_weighPrincipals j1 a2 a3 a4 σ = some τ) : Cl G d m_X8_weighPrincipals [.ref (ad G 8 0 0), .ref (ad G 5 j1 0), .int a2, .int a3, .int a4] σ none τ := by
  unfold dc_X8_weighPrincipals at h
  refine Cl.mk (cc := cX8_weighPrincipals) (own := RX8) (nL := 8) (ret := none) rfl rfl rfl rfl (by decide +kernel) (catA rfl) (Nat.le_of_ble_eq_true rfl) (fun X C => ?_)
  show V X G 0 0 (QE X G none τ) σ 0 [some (.ref (ad G 8 0 0)), some (.ref (ad G 5 j1 0)), some (.int a2), some (.int a3), some (.int a4), none, none, none] []
  refine v_iconst C dX8_weighPrincipals_0 ki_0 ?_
  refine v_istore C dX8_weighPrincipals_1 (Nat.le_of_ble_eq_true rfl) (lc1 := [some (.ref (ad G 8 0 0)), some (.ref (ad G 5 j1 0)), some (.int a2), some (.int a3), some (.int a4), some (.int (0 : Int32)), none, none]) rfl ?_
  refine v_loop1 (fun x3 σ2 => V X G 0 0 (QE X G none τ) σ2 3 [some (.ref (ad G 8 0 0)), some (.ref (ad G 5 j1 0)), some (.int a2), some (.int a3), some (.int a4), some (.int x3), none, none] []) (fun rec1 hrec1 x3 σ2 h => ?_) h
  refine v_iload C dX8_weighPrincipals_3 rfl ?_
  refine v_aload_n C dX8_weighPrincipals_5 rfl rfl ?_
  refine gf_X8_79 C hj1 dX8_weighPrincipals_6 ?_
  refine v_icmp_ge C dX8_weighPrincipals_9 (tgt := 84) (by decide) h (fun h => ?_) (fun h => ?_)
  · exact v_vret C dX8_weighPrincipals_84 h
  · refine v_aload_n C dX8_weighPrincipals_12 rfl rfl ?_
    refine gf_X8_82 C hj1 dX8_weighPrincipals_13 ?_
    refine v_iload C dX8_weighPrincipals_16 rfl ?_
    refine lq_13 C hj1 dX8_weighPrincipals_18 h (fun h hq4 => ?_)
    refine v_astore C dX8_weighPrincipals_19 (Nat.le_of_ble_eq_true rfl) (lc1 := [some (.ref (ad G 8 0 0)), some (.ref (ad G 5 j1 0)), some (.int a2), some (.int a3), some (.int a4), some (.int x3), some (.ref (ad G 6 j1 x3.toNatClampNeg)), none]) rfl ?_
    refine v_aload C dX8_weighPrincipals_21 rfl ?_
    refine gf_X8_105 C hj1 hq4 dX8_weighPrincipals_23 ?_
    refine v_iload_n C dX8_weighPrincipals_26 rfl rfl ?_
    refine v_join (fun k => ∀ (v5 : Int32), k v5 = some τ → V X G 0 0 (QE X G none τ) σ2 55 [some (.ref (ad G 8 0 0)), some (.ref (ad G 5 j1 0)), some (.int a2), some (.int a3), some (.int a4), some (.int x3), some (.ref (ad G 6 j1 x3.toNatClampNeg)), none] [.int v5]) h (fun v5 h => ?_) (fun k6 hk6 h => ?_)
    · refine v_istore C dX8_weighPrincipals_55 (Nat.le_of_ble_eq_true rfl) (lc1 := [some (.ref (ad G 8 0 0)), some (.ref (ad G 5 j1 0)), some (.int a2), some (.int a3), some (.int a4), some (.int x3), some (.ref (ad G 6 j1 x3.toNatClampNeg)), some (.int v5)]) rfl ?_
      refine v_aload_n C dX8_weighPrincipals_57 rfl rfl ?_
      refine gf_X8_18 C dX8_weighPrincipals_58 ?_
      refine v_iload C dX8_weighPrincipals_61 rfl ?_
      refine v_iload C dX8_weighPrincipals_63 rfl ?_
      refine v_if_eq C dX8_weighPrincipals_65 (tgt := 76) (by decide) h (fun h => ?_) (fun h => ?_)
      · refine v_iconst C dX8_weighPrincipals_76 ki_0 ?_
        refine as_18 C (by decide) dX8_weighPrincipals_77 h (fun h => ?_)
        refine v_iinc C dX8_weighPrincipals_78 rfl (kc_1 _) (lc1 := [some (.ref (ad G 8 0 0)), some (.ref (ad G 5 j1 0)), some (.int a2), some (.int a3), some (.int a4), some (.int (x3 + 1)), some (.ref (ad G 6 j1 x3.toNatClampNeg)), some (.int v5)]) rfl ?_
        refine v_goto C dX8_weighPrincipals_81 (tgt := 3) (by decide) ?_
        refine v_mask [true, true, true, true, true, true, false, false] (lc' := [some (.ref (ad G 8 0 0)), some (.ref (ad G 5 j1 0)), some (.int a2), some (.int a3), some (.int a4), some (.int (x3 + 1)), none, none]) rfl ?_
        exact hrec1 _ _ h
      · refine v_aload C dX8_weighPrincipals_68 rfl ?_
        refine gf_X8_94 C hj1 hq4 dX8_weighPrincipals_70 ?_
        refine v_goto C dX8_weighPrincipals_73 (tgt := 77) (by decide) ?_
        refine as_18 C (by decide) dX8_weighPrincipals_77 h (fun h => ?_)
        refine v_iinc C dX8_weighPrincipals_78 rfl (kc_1 _) (lc1 := [some (.ref (ad G 8 0 0)), some (.ref (ad G 5 j1 0)), some (.int a2), some (.int a3), some (.int a4), some (.int (x3 + 1)), some (.ref (ad G 6 j1 x3.toNatClampNeg)), some (.int v5)]) rfl ?_
        refine v_goto C dX8_weighPrincipals_81 (tgt := 3) (by decide) ?_
        refine v_mask [true, true, true, true, true, true, false, false] (lc' := [some (.ref (ad G 8 0 0)), some (.ref (ad G 5 j1 0)), some (.int a2), some (.int a3), some (.int a4), some (.int (x3 + 1)), none, none]) rfl ?_
        exact hrec1 _ _ h
    · refine v_icmp_ne C dX8_weighPrincipals_27 (tgt := 54) (by decide) h (fun h => ?_) (fun h => ?_)
      · refine v_iconst C dX8_weighPrincipals_54 ki_0 ?_
        refine v_mask [true, true, true, true, true, true, true, false] (lc' := [some (.ref (ad G 8 0 0)), some (.ref (ad G 5 j1 0)), some (.int a2), some (.int a3), some (.int a4), some (.int x3), some (.ref (ad G 6 j1 x3.toNatClampNeg)), none]) rfl ?_
        exact hk6 _ h
      · refine v_aload C dX8_weighPrincipals_30 rfl ?_
        refine gf_X8_108 C hj1 hq4 dX8_weighPrincipals_32 ?_
        refine v_if_ne C dX8_weighPrincipals_35 (tgt := 45) (by decide) h (fun h => ?_) (fun h => ?_)
        · refine v_iload C dX8_weighPrincipals_45 rfl ?_
          refine v_if_eq C dX8_weighPrincipals_47 (tgt := 54) (by decide) h (fun h => ?_) (fun h => ?_)
          · refine v_iconst C dX8_weighPrincipals_54 ki_0 ?_
            refine v_mask [true, true, true, true, true, true, true, false] (lc' := [some (.ref (ad G 8 0 0)), some (.ref (ad G 5 j1 0)), some (.int a2), some (.int a3), some (.int a4), some (.int x3), some (.ref (ad G 6 j1 x3.toNatClampNeg)), none]) rfl ?_
            exact hk6 _ h
          · refine v_iconst C dX8_weighPrincipals_50 ki_1 ?_
            refine v_goto C dX8_weighPrincipals_51 (tgt := 55) (by decide) ?_
            refine v_mask [true, true, true, true, true, true, true, false] (lc' := [some (.ref (ad G 8 0 0)), some (.ref (ad G 5 j1 0)), some (.int a2), some (.int a3), some (.int a4), some (.int x3), some (.ref (ad G 6 j1 x3.toNatClampNeg)), none]) rfl ?_
            exact hk6 _ h
        · refine v_iload_n C dX8_weighPrincipals_38 rfl rfl ?_
          refine v_if_eq C dX8_weighPrincipals_39 (tgt := 54) (by decide) h (fun h => ?_) (fun h => ?_)
          · refine v_iconst C dX8_weighPrincipals_54 ki_0 ?_
            refine v_mask [true, true, true, true, true, true, true, false] (lc' := [some (.ref (ad G 8 0 0)), some (.ref (ad G 5 j1 0)), some (.int a2), some (.int a3), some (.int a4), some (.int x3), some (.ref (ad G 6 j1 x3.toNatClampNeg)), none]) rfl ?_
            exact hk6 _ h
          · refine v_goto C dX8_weighPrincipals_42 (tgt := 50) (by decide) ?_
            refine v_iconst C dX8_weighPrincipals_50 ki_1 ?_
            refine v_goto C dX8_weighPrincipals_51 (tgt := 55) (by decide) ?_
            refine v_mask [true, true, true, true, true, true, true, false] (lc' := [some (.ref (ad G 8 0 0)), some (.ref (ad G 5 j1 0)), some (.int a2), some (.int a3), some (.int a4), some (.int x3), some (.ref (ad G 6 j1 x3.toNatClampNeg)), none]) rfl ?_
            exact hk6 _ h

def dc_X8_ofGivingUp (j1 : Nat) (a2 : Int32) (σ : Sto) : Option Sto :=
  (bv (dc_X8_clear  σ) fun σ2 => (bv (dc_X8_weighPrincipals j1 a2 (1 : Int32) (1 : Int32) σ2) fun σ4 => wh1 (fun (rec5 : Int32 → Sto → Option Sto) (x7 : Int32) (σ6 : Sto) => (if (60 : Int32) ≤ x7 then some σ6 else (if inb x7 60 then (if inb x7 60 then rec5 (x7 + 1) (up σ6 288 1 x7.toNatClampNeg (σ6.1 288 2 x7.toNatClampNeg)) else none) else none))) FU (0 : Int32) σ4))
set_option maxRecDepth 20000 in
set_option maxHeartbeats 4000000 in
theorem s_X8_ofGivingUp {G : Gm} {d : Nat} (j1 : Nat) (a2 : Int32) (hj1 : j1 < 7) {σ τ : Sto} (h : dc_X8_ofGivingUp j1 a2 σ = some τ) : Cl G (d + 1) m_X8_ofGivingUp [.ref (ad G 8 0 0), .ref (ad G 5 j1 0), .int a2] σ none τ := by
  unfold dc_X8_ofGivingUp at h
  refine Cl.mk (cc := cX8_ofGivingUp) (own := RX8) (nL := 4) (ret := none) rfl rfl rfl rfl (by decide +kernel) (catA rfl) (Nat.le_of_ble_eq_true rfl) (fun X C => ?_)
  show V X G 0 0 (QE X G none τ) σ 0 [some (.ref (ad G 8 0 0)), some (.ref (ad G 5 j1 0)), some (.int a2), none] []
  refine v_aload_n C dX8_ofGivingUp_0 rfl rfl ?_
  refine cVv C 8 0 0 (av := []) si_X8_clear lk_X8_21 (ok8) rfl rfl rfl rfl (st := []) rfl (Nat.le_of_ble_eq_true rfl) dX8_ofGivingUp_1 h (fun _ hc => s_X8_clear (d := d)   hc) (fun σ2 h => ?_)
  refine v_aload_n C dX8_ofGivingUp_4 rfl rfl ?_
  refine v_aload_n C dX8_ofGivingUp_5 rfl rfl ?_
  refine v_iload_n C dX8_ofGivingUp_6 rfl rfl ?_
  refine v_iconst C dX8_ofGivingUp_7 ki_1 ?_
  refine v_iconst C dX8_ofGivingUp_8 ki_1 ?_
  refine cVv C 8 0 0 (av := [.ref (ad G 5 j1 0), .int a2, .int (1 : Int32), .int (1 : Int32)]) si_X8_weighPrincipals lk_X8_24 (ok8) rfl rfl rfl rfl (st := []) rfl (Nat.le_of_ble_eq_true rfl) dX8_ofGivingUp_9 h (fun _ hc => s_X8_weighPrincipals (d := d) j1 a2 (1 : Int32) (1 : Int32) hj1 hc) (fun σ4 h => ?_)
  refine v_iconst C dX8_ofGivingUp_12 ki_0 ?_
  refine v_istore_n C dX8_ofGivingUp_13 rfl (Nat.le_of_ble_eq_true rfl) (lc1 := [some (.ref (ad G 8 0 0)), some (.ref (ad G 5 j1 0)), some (.int a2), some (.int (0 : Int32))]) rfl ?_
  refine v_loop1 (fun x7 σ6 => V X G 0 0 (QE X G none τ) σ6 14 [some (.ref (ad G 8 0 0)), some (.ref (ad G 5 j1 0)), some (.int a2), some (.int x7)] []) (fun rec5 hrec5 x7 σ6 h => ?_) h
  refine v_iload_n C dX8_ofGivingUp_14 rfl rfl ?_
  refine v_aload_n C dX8_ofGivingUp_15 rfl rfl ?_
  refine gf_X8_15 C dX8_ofGivingUp_16 ?_
  refine al_18 C (by decide) dX8_ofGivingUp_19 ?_
  refine v_icmp_ge C dX8_ofGivingUp_20 (tgt := 41) (by decide) h (fun h => ?_) (fun h => ?_)
  · exact v_vret C dX8_ofGivingUp_41 h
  · refine v_aload_n C dX8_ofGivingUp_23 rfl rfl ?_
    refine gf_X8_15 C dX8_ofGivingUp_24 ?_
    refine v_iload_n C dX8_ofGivingUp_27 rfl rfl ?_
    refine v_aload_n C dX8_ofGivingUp_28 rfl rfl ?_
    refine gf_X8_18 C dX8_ofGivingUp_29 ?_
    refine v_iload_n C dX8_ofGivingUp_32 rfl rfl ?_
    refine ld_18 C (by decide) dX8_ofGivingUp_33 h (fun h => ?_)
    refine as_18 C (by decide) dX8_ofGivingUp_34 h (fun h => ?_)
    refine v_iinc C dX8_ofGivingUp_35 rfl (kc_1 _) (lc1 := [some (.ref (ad G 8 0 0)), some (.ref (ad G 5 j1 0)), some (.int a2), some (.int (x7 + 1))]) rfl ?_
    refine v_goto C dX8_ofGivingUp_38 (tgt := 14) (by decide) ?_
    refine v_mask [true, true, true, true] (lc' := [some (.ref (ad G 8 0 0)), some (.ref (ad G 5 j1 0)), some (.int a2), some (.int (x7 + 1))]) rfl ?_
    exact hrec5 _ _ h

def dc_X8_shareOut (a1 : Int32) (j2 : Nat) (σ : Sto) : Option Sto :=
  wh2 (fun (rec1 : Int64 → Int32 → Sto → Option Sto) (x3 : Int64) (x4 : Int32) (σ2 : Sto) => (if (60 : Int32) ≤ x4 then (if 0 < (lg_cmp x3 (0 : Int64)) then wh2 (fun (rec5 : Int32 → Int32 → Sto → Option Sto) (x7 : Int32) (x8 : Int32) (σ6 : Sto) => (if (60 : Int32) ≤ x8 then wh2 (fun (rec9 : Int32 → Int32 → Sto → Option Sto) (x11 : Int32) (x12 : Int32) (σ10 : Sto) => (if (60 : Int32) ≤ x12 then some σ10 else (if x11 ≤ 0 then some σ10 else (if inb x12 60 then (if (σ10.1 288 2 x12.toNatClampNeg) = 0 then rec9 x11 (x12 + 1) σ10 else (if inb x12 60 then (if inb x12 60 then rec9 (x11 + (-1)) (x12 + 1) (up σ10 288 j2 x12.toNatClampNeg ((σ10.1 288 j2 x12.toNatClampNeg) + (1 : Int32))) else none) else none)) else none)))) FU x7 (0 : Int32) σ6 else (if inb x8 60 then (if ¬ x3 = 0 then (if inb x8 60 then (if inb x8 60 then rec5 (x7 - (((a1.toInt64 * ((σ6.1 288 2 x8.toNatClampNeg).toInt64)) / x3).toInt32)) (x8 + 1) (up σ6 288 j2 x8.toNatClampNeg ((σ6.1 288 j2 x8.toNatClampNeg) + (((a1.toInt64 * ((σ6.1 288 2 x8.toNatClampNeg).toInt64)) / x3).toInt32))) else none) else none) else none) else none))) FU a1 (0 : Int32) σ2 else some σ2) else (if inb x4 60 then rec1 (x3 + ((σ2.1 288 2 x4.toNatClampNeg).toInt64)) (x4 + 1) σ2 else none))) FU (0 : Int64) (0 : Int32) σ
set_option maxRecDepth 20000 in
set_option maxHeartbeats 4000000 in
theorem s_X8_shareOut {G : Gm} {d : Nat} (a1 : Int32) (j2 : Nat) (hj2 : j2 < 3) {σ τ : Sto} (h : dc_X8_shareOut a1 j2 σ = some τ) : Cl G d m_X8_shareOut [.ref (ad G 8 0 0), .int a1, .ref (ad G 18 j2 0)] σ none τ := by
  unfold dc_X8_shareOut at h
  refine Cl.mk (cc := cX8_shareOut) (own := RX8) (nL := 8) (ret := none) rfl rfl rfl rfl (by decide +kernel) (catA rfl) (Nat.le_of_ble_eq_true rfl) (fun X C => ?_)
  show V X G 0 0 (QE X G none τ) σ 0 [some (.ref (ad G 8 0 0)), some (.int a1), some (.ref (ad G 18 j2 0)), none, none, none, none, none] []
  refine v_lconst C dX8_shareOut_0 kl_0 ?_
  refine v_lstore_n C dX8_shareOut_1 rfl (Nat.le_of_ble_eq_true rfl) (lc1 := [some (.ref (ad G 8 0 0)), some (.int a1), some (.ref (ad G 18 j2 0)), some (.long (0 : Int64)), none, none, none, none]) rfl ?_
  refine v_iconst C dX8_shareOut_2 ki_0 ?_
  refine v_istore C dX8_shareOut_3 (Nat.le_of_ble_eq_true rfl) (lc1 := [some (.ref (ad G 8 0 0)), some (.int a1), some (.ref (ad G 18 j2 0)), some (.long (0 : Int64)), none, some (.int (0 : Int32)), none, none]) rfl ?_
  refine v_loop2 (fun x3 x4 σ2 => V X G 0 0 (QE X G none τ) σ2 5 [some (.ref (ad G 8 0 0)), some (.int a1), some (.ref (ad G 18 j2 0)), some (.long x3), none, some (.int x4), none, none] []) (fun rec1 hrec1 x3 x4 σ2 h => ?_) h
  refine v_iload C dX8_shareOut_5 rfl ?_
  refine v_aload_n C dX8_shareOut_7 rfl rfl ?_
  refine gf_X8_18 C dX8_shareOut_8 ?_
  refine al_18 C (by decide) dX8_shareOut_11 ?_
  refine v_icmp_ge C dX8_shareOut_12 (tgt := 32) (by decide) h (fun h => ?_) (fun h => ?_)
  · refine v_lload_n C dX8_shareOut_32 rfl rfl ?_
    refine v_lconst C dX8_shareOut_33 kl_0 ?_
    refine v_lcmp C dX8_shareOut_34 ?_
    refine v_if_gt C dX8_shareOut_35 (tgt := 39) (by decide) h (fun h => ?_) (fun h => ?_)
    · refine v_iload_n C dX8_shareOut_39 rfl rfl ?_
      refine v_istore C dX8_shareOut_40 (Nat.le_of_ble_eq_true rfl) (lc1 := [some (.ref (ad G 8 0 0)), some (.int a1), some (.ref (ad G 18 j2 0)), some (.long x3), none, some (.int a1), none, none]) rfl ?_
      refine v_iconst C dX8_shareOut_42 ki_0 ?_
      refine v_istore C dX8_shareOut_43 (Nat.le_of_ble_eq_true rfl) (lc1 := [some (.ref (ad G 8 0 0)), some (.int a1), some (.ref (ad G 18 j2 0)), some (.long x3), none, some (.int a1), some (.int (0 : Int32)), none]) rfl ?_
      refine v_loop2 (fun x7 x8 σ6 => V X G 0 0 (QE X G none τ) σ6 45 [some (.ref (ad G 8 0 0)), some (.int a1), some (.ref (ad G 18 j2 0)), some (.long x3), none, some (.int x7), some (.int x8), none] []) (fun rec5 hrec5 x7 x8 σ6 h => ?_) h
      refine v_iload C dX8_shareOut_45 rfl ?_
      refine v_aload_n C dX8_shareOut_47 rfl rfl ?_
      refine gf_X8_18 C dX8_shareOut_48 ?_
      refine al_18 C (by decide) dX8_shareOut_51 ?_
      refine v_icmp_ge C dX8_shareOut_52 (tgt := 93) (by decide) h (fun h => ?_) (fun h => ?_)
      · refine v_iconst C dX8_shareOut_93 ki_0 ?_
        refine v_istore C dX8_shareOut_94 (Nat.le_of_ble_eq_true rfl) (lc1 := [some (.ref (ad G 8 0 0)), some (.int a1), some (.ref (ad G 18 j2 0)), some (.long x3), none, some (.int x7), some (.int (0 : Int32)), none]) rfl ?_
        refine v_loop2 (fun x11 x12 σ10 => V X G 0 0 (QE X G none τ) σ10 96 [some (.ref (ad G 8 0 0)), some (.int a1), some (.ref (ad G 18 j2 0)), some (.long x3), none, some (.int x11), some (.int x12), none] []) (fun rec9 hrec9 x11 x12 σ10 h => ?_) h
        refine v_iload C dX8_shareOut_96 rfl ?_
        refine v_aload_n C dX8_shareOut_98 rfl rfl ?_
        refine gf_X8_18 C dX8_shareOut_99 ?_
        refine al_18 C (by decide) dX8_shareOut_102 ?_
        refine v_icmp_ge C dX8_shareOut_103 (tgt := 138) (by decide) h (fun h => ?_) (fun h => ?_)
        · exact v_vret C dX8_shareOut_138 h
        · refine v_iload C dX8_shareOut_106 rfl ?_
          refine v_if_le C dX8_shareOut_108 (tgt := 138) (by decide) h (fun h => ?_) (fun h => ?_)
          · exact v_vret C dX8_shareOut_138 h
          · refine v_aload_n C dX8_shareOut_111 rfl rfl ?_
            refine gf_X8_18 C dX8_shareOut_112 ?_
            refine v_iload C dX8_shareOut_115 rfl ?_
            refine ld_18 C (by decide) dX8_shareOut_117 h (fun h => ?_)
            refine v_if_eq C dX8_shareOut_118 (tgt := 132) (by decide) h (fun h => ?_) (fun h => ?_)
            · refine v_iinc C dX8_shareOut_132 rfl (kc_1 _) (lc1 := [some (.ref (ad G 8 0 0)), some (.int a1), some (.ref (ad G 18 j2 0)), some (.long x3), none, some (.int x11), some (.int (x12 + 1)), none]) rfl ?_
              refine v_goto C dX8_shareOut_135 (tgt := 96) (by decide) ?_
              refine v_mask [true, true, true, true, false, true, true, false] (lc' := [some (.ref (ad G 8 0 0)), some (.int a1), some (.ref (ad G 18 j2 0)), some (.long x3), none, some (.int x11), some (.int (x12 + 1)), none]) rfl ?_
              exact hrec9 _ _ _ h
            · refine v_aload_n C dX8_shareOut_121 rfl rfl ?_
              refine v_iload C dX8_shareOut_122 rfl ?_
              refine v_dup2 C dX8_shareOut_124 rfl rfl ?_
              refine ld_18 C hj2 dX8_shareOut_125 h (fun h => ?_)
              refine v_iconst C dX8_shareOut_126 ki_1 ?_
              refine v_iadd C dX8_shareOut_127 ?_
              refine as_18 C hj2 dX8_shareOut_128 h (fun h => ?_)
              refine v_iinc C dX8_shareOut_129 rfl (kc_m1 _) (lc1 := [some (.ref (ad G 8 0 0)), some (.int a1), some (.ref (ad G 18 j2 0)), some (.long x3), none, some (.int (x11 + (-1))), some (.int x12), none]) rfl ?_
              refine v_iinc C dX8_shareOut_132 rfl (kc_1 _) (lc1 := [some (.ref (ad G 8 0 0)), some (.int a1), some (.ref (ad G 18 j2 0)), some (.long x3), none, some (.int (x11 + (-1))), some (.int (x12 + 1)), none]) rfl ?_
              refine v_goto C dX8_shareOut_135 (tgt := 96) (by decide) ?_
              refine v_mask [true, true, true, true, false, true, true, false] (lc' := [some (.ref (ad G 8 0 0)), some (.int a1), some (.ref (ad G 18 j2 0)), some (.long x3), none, some (.int (x11 + (-1))), some (.int (x12 + 1)), none]) rfl ?_
              exact hrec9 _ _ _ h
      · refine v_iload_n C dX8_shareOut_55 rfl rfl ?_
        refine v_i2l C dX8_shareOut_56 ?_
        refine v_aload_n C dX8_shareOut_57 rfl rfl ?_
        refine gf_X8_18 C dX8_shareOut_58 ?_
        refine v_iload C dX8_shareOut_61 rfl ?_
        refine ld_18 C (by decide) dX8_shareOut_63 h (fun h => ?_)
        refine v_i2l C dX8_shareOut_64 ?_
        refine v_lmul C dX8_shareOut_65 ?_
        refine v_lload_n C dX8_shareOut_66 rfl rfl ?_
        refine v_ldiv C dX8_shareOut_67 (if_some h).1 ?_
        have h := (if_some h).2
        refine v_l2i C dX8_shareOut_68 ?_
        refine v_istore C dX8_shareOut_69 (Nat.le_of_ble_eq_true rfl) (lc1 := [some (.ref (ad G 8 0 0)), some (.int a1), some (.ref (ad G 18 j2 0)), some (.long x3), none, some (.int x7), some (.int x8), some (.int (((a1.toInt64 * ((σ6.1 288 2 x8.toNatClampNeg).toInt64)) / x3).toInt32))]) rfl ?_
        refine v_aload_n C dX8_shareOut_71 rfl rfl ?_
        refine v_iload C dX8_shareOut_72 rfl ?_
        refine v_dup2 C dX8_shareOut_74 rfl rfl ?_
        refine ld_18 C hj2 dX8_shareOut_75 h (fun h => ?_)
        refine v_iload C dX8_shareOut_76 rfl ?_
        refine v_iadd C dX8_shareOut_78 ?_
        refine as_18 C hj2 dX8_shareOut_79 h (fun h => ?_)
        refine v_iload C dX8_shareOut_80 rfl ?_
        refine v_iload C dX8_shareOut_82 rfl ?_
        refine v_isub C dX8_shareOut_84 ?_
        refine v_istore C dX8_shareOut_85 (Nat.le_of_ble_eq_true rfl) (lc1 := [some (.ref (ad G 8 0 0)), some (.int a1), some (.ref (ad G 18 j2 0)), some (.long x3), none, some (.int (x7 - (((a1.toInt64 * ((σ6.1 288 2 x8.toNatClampNeg).toInt64)) / x3).toInt32))), some (.int x8), some (.int (((a1.toInt64 * ((σ6.1 288 2 x8.toNatClampNeg).toInt64)) / x3).toInt32))]) rfl ?_
        refine v_iinc C dX8_shareOut_87 rfl (kc_1 _) (lc1 := [some (.ref (ad G 8 0 0)), some (.int a1), some (.ref (ad G 18 j2 0)), some (.long x3), none, some (.int (x7 - (((a1.toInt64 * ((σ6.1 288 2 x8.toNatClampNeg).toInt64)) / x3).toInt32))), some (.int (x8 + 1)), some (.int (((a1.toInt64 * ((σ6.1 288 2 x8.toNatClampNeg).toInt64)) / x3).toInt32))]) rfl ?_
        refine v_goto C dX8_shareOut_90 (tgt := 45) (by decide) ?_
        refine v_mask [true, true, true, true, false, true, true, false] (lc' := [some (.ref (ad G 8 0 0)), some (.int a1), some (.ref (ad G 18 j2 0)), some (.long x3), none, some (.int (x7 - (((a1.toInt64 * ((σ6.1 288 2 x8.toNatClampNeg).toInt64)) / x3).toInt32))), some (.int (x8 + 1)), none]) rfl ?_
        exact hrec5 _ _ _ h
    · exact v_vret C dX8_shareOut_38 h
  · refine v_lload_n C dX8_shareOut_15 rfl rfl ?_
    refine v_aload_n C dX8_shareOut_16 rfl rfl ?_
    refine gf_X8_18 C dX8_shareOut_17 ?_
    refine v_iload C dX8_shareOut_20 rfl ?_
    refine ld_18 C (by decide) dX8_shareOut_22 h (fun h => ?_)
    refine v_i2l C dX8_shareOut_23 ?_
    refine v_ladd C dX8_shareOut_24 ?_
    refine v_lstore_n C dX8_shareOut_25 rfl (Nat.le_of_ble_eq_true rfl) (lc1 := [some (.ref (ad G 8 0 0)), some (.int a1), some (.ref (ad G 18 j2 0)), some (.long (x3 + ((σ2.1 288 2 x4.toNatClampNeg).toInt64))), none, some (.int x4), none, none]) rfl ?_
    refine v_iinc C dX8_shareOut_26 rfl (kc_1 _) (lc1 := [some (.ref (ad G 8 0 0)), some (.int a1), some (.ref (ad G 18 j2 0)), some (.long (x3 + ((σ2.1 288 2 x4.toNatClampNeg).toInt64))), none, some (.int (x4 + 1)), none, none]) rfl ?_
    refine v_goto C dX8_shareOut_29 (tgt := 5) (by decide) ?_
    refine v_mask [true, true, true, true, false, true, false, false] (lc' := [some (.ref (ad G 8 0 0)), some (.int a1), some (.ref (ad G 18 j2 0)), some (.long (x3 + ((σ2.1 288 2 x4.toNatClampNeg).toInt64))), none, some (.int (x4 + 1)), none, none]) rfl ?_
    exact hrec1 _ _ _ h
