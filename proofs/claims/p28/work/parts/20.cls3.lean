/-! by program (wip/p28/walk.py): X8_fits X8_carryOut X9_addInvestor X9_deposit X9_setPoolShare X9_isLoanMonths X9_openLoan X9_fund X9_giveUp X9_isPayment X9_pay X9_cure X9_isPrice X9_sell X9_switchServicer X9_sellNote -/
def dc_X8_fits (j1 : Nat) (σ : Sto) : Option (Int32 × Sto) :=
  wh1 (fun (rec1 : Int32 → Sto → Option (Int32 × Sto)) (x3 : Int32) (σ2 : Sto) => (if (σ2.1 84 j1 0) ≤ x3 then some ((1 : Int32), σ2) else (if inb x3 8 then wh2 (fun (rec5 : Int64 → Int32 → Sto → Option (Int32 × Sto)) (x7 : Int64) (x8 : Int32) (σ6 : Sto) => (if (σ6.1 86 j1 0) ≤ x8 then (if (lg_cmp x7 (2147483647 : Int64)) ≤ 0 then rec1 (x3 + 1) σ6 else some ((0 : Int32), σ6)) else (if inb x8 60 then (if (σ6.1 96 j1 x8.toNatClampNeg) = x3 then (if inb x8 60 then (if inb x8 60 then rec5 (x7 + (((σ6.1 288 0 x8.toNatClampNeg) + (σ6.1 288 1 x8.toNatClampNeg)).toInt64)) (x8 + 1) σ6 else none) else none) else rec5 x7 (x8 + 1) σ6) else none))) FU ((σ2.1 48 j1 x3.toNatClampNeg).toInt64) (0 : Int32) σ2 else none))) FU (0 : Int32) σ
set_option maxRecDepth 20000 in
set_option maxHeartbeats 4000000 in
theorem s_X8_fits {G : Gm} {d : Nat} (j1 : Nat) (hj1 : j1 < 7) {σ τ : Sto} {r : Int32} (h : dc_X8_fits j1 σ = some (r, τ)) : Cl G d m_X8_fits [.ref (ad G 8 0 0), .ref (ad G 5 j1 0)] σ (some (.int r)) τ := by
  unfold dc_X8_fits at h
  refine Cl.mk (cc := cX8_fits) (own := RX8) (nL := 6) (ret := (some .boolean)) rfl rfl rfl rfl (by decide +kernel) (catA rfl) (Nat.le_of_ble_eq_true rfl) (fun X C => ?_)
  show V X G 0 0 (QE X G (some (.int r)) τ) σ 0 [some (.ref (ad G 8 0 0)), some (.ref (ad G 5 j1 0)), none, none, none, none] []
  refine v_iconst C dX8_fits_0 ki_0 ?_
  refine v_istore_n C dX8_fits_1 rfl (Nat.le_of_ble_eq_true rfl) (lc1 := [some (.ref (ad G 8 0 0)), some (.ref (ad G 5 j1 0)), some (.int (0 : Int32)), none, none, none]) rfl ?_
  refine v_loop1 (fun x3 σ2 => V X G 0 0 (QE X G (some (.int r)) τ) σ2 2 [some (.ref (ad G 8 0 0)), some (.ref (ad G 5 j1 0)), some (.int x3), none, none, none] []) (fun rec1 hrec1 x3 σ2 h => ?_) h
  refine v_iload_n C dX8_fits_2 rfl rfl ?_
  refine v_aload_n C dX8_fits_3 rfl rfl ?_
  refine gf_X8_67 C hj1 dX8_fits_4 ?_
  refine v_icmp_ge C dX8_fits_7 (tgt := 88) (by decide) h (fun h => ?_) (fun h => ?_)
  · refine v_iconst C dX8_fits_88 ki_1 ?_
    exact v_zretc C dX8_fits_89 (nar01 (Or.inr rfl)) h
  · refine v_aload_n C dX8_fits_10 rfl rfl ?_
    refine gf_X8_70 C hj1 dX8_fits_11 ?_
    refine v_iload_n C dX8_fits_14 rfl rfl ?_
    refine lq_11 C hj1 dX8_fits_15 h (fun h hq4 => ?_)
    refine gf_X8_74 C hj1 hq4 dX8_fits_16 ?_
    refine v_i2l C dX8_fits_19 ?_
    refine v_lstore_n C dX8_fits_20 rfl (Nat.le_of_ble_eq_true rfl) (lc1 := [some (.ref (ad G 8 0 0)), some (.ref (ad G 5 j1 0)), some (.int x3), some (.long ((σ2.1 48 j1 x3.toNatClampNeg).toInt64)), none, none]) rfl ?_
    refine v_iconst C dX8_fits_21 ki_0 ?_
    refine v_istore C dX8_fits_22 (Nat.le_of_ble_eq_true rfl) (lc1 := [some (.ref (ad G 8 0 0)), some (.ref (ad G 5 j1 0)), some (.int x3), some (.long ((σ2.1 48 j1 x3.toNatClampNeg).toInt64)), none, some (.int (0 : Int32))]) rfl ?_
    refine v_loop2 (fun x7 x8 σ6 => V X G 0 0 (QE X G (some (.int r)) τ) σ6 24 [some (.ref (ad G 8 0 0)), some (.ref (ad G 5 j1 0)), some (.int x3), some (.long x7), none, some (.int x8)] []) (fun rec5 hrec5 x7 x8 σ6 h => ?_) h
    refine v_iload C dX8_fits_24 rfl ?_
    refine v_aload_n C dX8_fits_26 rfl rfl ?_
    refine gf_X8_79 C hj1 dX8_fits_27 ?_
    refine v_icmp_ge C dX8_fits_30 (tgt := 72) (by decide) h (fun h => ?_) (fun h => ?_)
    · refine v_lload_n C dX8_fits_72 rfl rfl ?_
      refine v_ldc2 C dX8_fits_73 lk_X8_91 ?_
      refine v_lcmp C dX8_fits_76 ?_
      refine v_if_le C dX8_fits_77 (tgt := 82) (by decide) h (fun h => ?_) (fun h => ?_)
      · refine v_iinc C dX8_fits_82 rfl (kc_1 _) (lc1 := [some (.ref (ad G 8 0 0)), some (.ref (ad G 5 j1 0)), some (.int (x3 + 1)), some (.long x7), none, some (.int x8)]) rfl ?_
        refine v_goto C dX8_fits_85 (tgt := 2) (by decide) ?_
        refine v_mask [true, true, true, false, false, false] (lc' := [some (.ref (ad G 8 0 0)), some (.ref (ad G 5 j1 0)), some (.int (x3 + 1)), none, none, none]) rfl ?_
        exact hrec1 _ _ h
      · refine v_iconst C dX8_fits_80 ki_0 ?_
        exact v_zretc C dX8_fits_81 (nar01 (Or.inl rfl)) h
    · refine v_aload_n C dX8_fits_33 rfl rfl ?_
      refine gf_X8_82 C hj1 dX8_fits_34 ?_
      refine v_iload C dX8_fits_37 rfl ?_
      refine lq_13 C hj1 dX8_fits_39 h (fun h hq9 => ?_)
      refine gf_X8_86 C hj1 hq9 dX8_fits_40 ?_
      refine v_iload_n C dX8_fits_43 rfl rfl ?_
      refine v_icmp_ne C dX8_fits_44 (tgt := 66) (by decide) h (fun h => ?_) (fun h => ?_)
      · refine v_iinc C dX8_fits_66 rfl (kc_1 _) (lc1 := [some (.ref (ad G 8 0 0)), some (.ref (ad G 5 j1 0)), some (.int x3), some (.long x7), none, some (.int (x8 + 1))]) rfl ?_
        refine v_goto C dX8_fits_69 (tgt := 24) (by decide) ?_
        refine v_mask [true, true, true, true, false, true] (lc' := [some (.ref (ad G 8 0 0)), some (.ref (ad G 5 j1 0)), some (.int x3), some (.long x7), none, some (.int (x8 + 1))]) rfl ?_
        exact hrec5 _ _ _ h
      · refine v_lload_n C dX8_fits_47 rfl rfl ?_
        refine v_aload_n C dX8_fits_48 rfl rfl ?_
        refine gf_X8_9 C dX8_fits_49 ?_
        refine v_iload C dX8_fits_52 rfl ?_
        refine ld_18 C (by decide) dX8_fits_54 h (fun h => ?_)
        refine v_aload_n C dX8_fits_55 rfl rfl ?_
        refine gf_X8_15 C dX8_fits_56 ?_
        refine v_iload C dX8_fits_59 rfl ?_
        refine ld_18 C (by decide) dX8_fits_61 h (fun h => ?_)
        refine v_iadd C dX8_fits_62 ?_
        refine v_i2l C dX8_fits_63 ?_
        refine v_ladd C dX8_fits_64 ?_
        refine v_lstore_n C dX8_fits_65 rfl (Nat.le_of_ble_eq_true rfl) (lc1 := [some (.ref (ad G 8 0 0)), some (.ref (ad G 5 j1 0)), some (.int x3), some (.long (x7 + (((σ6.1 288 0 x8.toNatClampNeg) + (σ6.1 288 1 x8.toNatClampNeg)).toInt64))), none, some (.int x8)]) rfl ?_
        refine v_iinc C dX8_fits_66 rfl (kc_1 _) (lc1 := [some (.ref (ad G 8 0 0)), some (.ref (ad G 5 j1 0)), some (.int x3), some (.long (x7 + (((σ6.1 288 0 x8.toNatClampNeg) + (σ6.1 288 1 x8.toNatClampNeg)).toInt64))), none, some (.int (x8 + 1))]) rfl ?_
        refine v_goto C dX8_fits_69 (tgt := 24) (by decide) ?_
        refine v_mask [true, true, true, true, false, true] (lc' := [some (.ref (ad G 8 0 0)), some (.ref (ad G 5 j1 0)), some (.int x3), some (.long (x7 + (((σ6.1 288 0 x8.toNatClampNeg) + (σ6.1 288 1 x8.toNatClampNeg)).toInt64))), none, some (.int (x8 + 1))]) rfl ?_
        exact hrec5 _ _ _ h

def dc_X8_carryOut (j1 : Nat) (σ : Sto) : Option Sto :=
  wh1 (fun (rec1 : Int32 → Sto → Option Sto) (x3 : Int32) (σ2 : Sto) => (if (σ2.1 86 j1 0) ≤ x3 then some σ2 else (if inb x3 60 then (if inb x3 60 then (if inb x3 60 then (lt (up (up σ2 101 j1 x3.toNatClampNeg ((σ2.1 101 j1 x3.toNatClampNeg) + (σ2.1 288 0 x3.toNatClampNeg))) 99 j1 x3.toNatClampNeg (((up σ2 101 j1 x3.toNatClampNeg ((σ2.1 101 j1 x3.toNatClampNeg) + (σ2.1 288 0 x3.toNatClampNeg))).1 99 j1 x3.toNatClampNeg) - ((up σ2 101 j1 x3.toNatClampNeg ((σ2.1 101 j1 x3.toNatClampNeg) + (σ2.1 288 0 x3.toNatClampNeg))).1 288 1 x3.toNatClampNeg))) fun σ5 => (bd (dc_X5_hasInvestor j1 (σ5.1 96 j1 x3.toNatClampNeg) σ5) fun r6 σ7 => (if r6 = 0 then rec1 (x3 + 1) σ7 else (if inb (σ7.1 96 j1 x3.toNatClampNeg) 8 then (if inb x3 60 then (if inb x3 60 then (if inb x3 60 then (bv (dc_X5_give j1 ((up σ7 49 j1 ((σ7.1 96 j1 x3.toNatClampNeg).toNatClampNeg) ((σ7.1 49 j1 ((σ7.1 96 j1 x3.toNatClampNeg).toNatClampNeg)) + (σ7.1 288 0 x3.toNatClampNeg))).1 96 j1 x3.toNatClampNeg) (((up σ7 49 j1 ((σ7.1 96 j1 x3.toNatClampNeg).toNatClampNeg) ((σ7.1 49 j1 ((σ7.1 96 j1 x3.toNatClampNeg).toNatClampNeg)) + (σ7.1 288 0 x3.toNatClampNeg))).1 288 0 x3.toNatClampNeg) + ((up σ7 49 j1 ((σ7.1 96 j1 x3.toNatClampNeg).toNatClampNeg) ((σ7.1 49 j1 ((σ7.1 96 j1 x3.toNatClampNeg).toNatClampNeg)) + (σ7.1 288 0 x3.toNatClampNeg))).1 288 1 x3.toNatClampNeg)) (up σ7 49 j1 ((σ7.1 96 j1 x3.toNatClampNeg).toNatClampNeg) ((σ7.1 49 j1 ((σ7.1 96 j1 x3.toNatClampNeg).toNatClampNeg)) + (σ7.1 288 0 x3.toNatClampNeg)))) fun σ10 => rec1 (x3 + 1) σ10) else none) else none) else none) else none)))) else none) else none) else none))) FU (0 : Int32) σ
set_option maxRecDepth 20000 in
set_option maxHeartbeats 4000000 in
theorem s_X8_carryOut {G : Gm} {d : Nat} (j1 : Nat) (hj1 : j1 < 7) {σ τ : Sto} (h : dc_X8_carryOut j1 σ = some τ) : Cl G (d + 2) m_X8_carryOut [.ref (ad G 8 0 0), .ref (ad G 5 j1 0)] σ none τ := by
  unfold dc_X8_carryOut at h
  refine Cl.mk (cc := cX8_carryOut) (own := RX8) (nL := 4) (ret := none) rfl rfl rfl rfl (by decide +kernel) (catA rfl) (Nat.le_of_ble_eq_true rfl) (fun X C => ?_)
  show V X G 0 0 (QE X G none τ) σ 0 [some (.ref (ad G 8 0 0)), some (.ref (ad G 5 j1 0)), none, none] []
  refine v_iconst C dX8_carryOut_0 ki_0 ?_
  refine v_istore_n C dX8_carryOut_1 rfl (Nat.le_of_ble_eq_true rfl) (lc1 := [some (.ref (ad G 8 0 0)), some (.ref (ad G 5 j1 0)), some (.int (0 : Int32)), none]) rfl ?_
  refine v_loop1 (fun x3 σ2 => V X G 0 0 (QE X G none τ) σ2 2 [some (.ref (ad G 8 0 0)), some (.ref (ad G 5 j1 0)), some (.int x3), none] []) (fun rec1 hrec1 x3 σ2 h => ?_) h
  refine v_iload_n C dX8_carryOut_2 rfl rfl ?_
  refine v_aload_n C dX8_carryOut_3 rfl rfl ?_
  refine gf_X8_79 C hj1 dX8_carryOut_4 ?_
  refine v_icmp_ge C dX8_carryOut_7 (tgt := 108) (by decide) h (fun h => ?_) (fun h => ?_)
  · exact v_vret C dX8_carryOut_108 h
  · refine v_aload_n C dX8_carryOut_10 rfl rfl ?_
    refine gf_X8_82 C hj1 dX8_carryOut_11 ?_
    refine v_iload_n C dX8_carryOut_14 rfl rfl ?_
    refine lq_13 C hj1 dX8_carryOut_15 h (fun h hq4 => ?_)
    refine v_astore_n C dX8_carryOut_16 rfl (Nat.le_of_ble_eq_true rfl) (lc1 := [some (.ref (ad G 8 0 0)), some (.ref (ad G 5 j1 0)), some (.int x3), some (.ref (ad G 6 j1 x3.toNatClampNeg))]) rfl ?_
    refine v_aload_n C dX8_carryOut_17 rfl rfl ?_
    refine v_dup C dX8_carryOut_18 rfl ?_
    refine gf_X8_93 C hj1 hq4 dX8_carryOut_19 ?_
    refine v_aload_n C dX8_carryOut_22 rfl rfl ?_
    refine gf_X8_9 C dX8_carryOut_23 ?_
    refine v_iload_n C dX8_carryOut_26 rfl rfl ?_
    refine ld_18 C (by decide) dX8_carryOut_27 h (fun h => ?_)
    refine v_iadd C dX8_carryOut_28 ?_
    refine pf_X8_93 C hj1 hq4 dX8_carryOut_29 ?_
    refine v_aload_n C dX8_carryOut_32 rfl rfl ?_
    refine v_dup C dX8_carryOut_33 rfl ?_
    refine gf_X8_94 C hj1 hq4 dX8_carryOut_34 ?_
    refine v_aload_n C dX8_carryOut_37 rfl rfl ?_
    refine gf_X8_15 C dX8_carryOut_38 ?_
    refine v_iload_n C dX8_carryOut_41 rfl rfl ?_
    refine ld_18 C (by decide) dX8_carryOut_42 h (fun h => ?_)
    refine v_isub C dX8_carryOut_43 ?_
    refine pf_X8_94 C hj1 hq4 dX8_carryOut_44 ?_
    refine v_lt h (fun σ5 h => ?_)
    refine v_aload_n C dX8_carryOut_47 rfl rfl ?_
    refine v_aload_n C dX8_carryOut_48 rfl rfl ?_
    refine gf_X8_86 C hj1 hq4 dX8_carryOut_49 ?_
    refine cVi C 5 j1 0 (av := [.int (σ5.1 96 j1 x3.toNatClampNeg)]) si_X5_hasInvestor lk_X8_96 (ok5 hj1) rfl rfl rfl rfl (st := []) rfl (Nat.le_of_ble_eq_true rfl) dX8_carryOut_52 h (fun _ _ hc => s_X5_hasInvestor (d := (d + 1)) j1 (σ5.1 96 j1 x3.toNatClampNeg) hj1 hc) (fun r6 σ7 h => ?_)
    refine v_if_eq C dX8_carryOut_55 (tgt := 102) (by decide) h (fun h => ?_) (fun h => ?_)
    · refine v_iinc C dX8_carryOut_102 rfl (kc_1 _) (lc1 := [some (.ref (ad G 8 0 0)), some (.ref (ad G 5 j1 0)), some (.int (x3 + 1)), some (.ref (ad G 6 j1 x3.toNatClampNeg))]) rfl ?_
      refine v_goto C dX8_carryOut_105 (tgt := 2) (by decide) ?_
      refine v_mask [true, true, true, false] (lc' := [some (.ref (ad G 8 0 0)), some (.ref (ad G 5 j1 0)), some (.int (x3 + 1)), none]) rfl ?_
      exact hrec1 _ _ h
    · refine v_aload_n C dX8_carryOut_58 rfl rfl ?_
      refine gf_X8_70 C hj1 dX8_carryOut_59 ?_
      refine v_aload_n C dX8_carryOut_62 rfl rfl ?_
      refine gf_X8_86 C hj1 hq4 dX8_carryOut_63 ?_
      refine lq_11 C hj1 dX8_carryOut_66 h (fun h hq8 => ?_)
      refine v_dup C dX8_carryOut_67 rfl ?_
      refine gf_X8_100 C hj1 hq8 dX8_carryOut_68 ?_
      refine v_aload_n C dX8_carryOut_71 rfl rfl ?_
      refine gf_X8_9 C dX8_carryOut_72 ?_
      refine v_iload_n C dX8_carryOut_75 rfl rfl ?_
      refine ld_18 C (by decide) dX8_carryOut_76 h (fun h => ?_)
      refine v_iadd C dX8_carryOut_77 ?_
      refine pf_X8_100 C hj1 hq8 dX8_carryOut_78 ?_
      refine v_aload_n C dX8_carryOut_81 rfl rfl ?_
      refine v_aload_n C dX8_carryOut_82 rfl rfl ?_
      refine gf_X8_86 C hj1 hq4 dX8_carryOut_83 ?_
      refine v_aload_n C dX8_carryOut_86 rfl rfl ?_
      refine gf_X8_9 C dX8_carryOut_87 ?_
      refine v_iload_n C dX8_carryOut_90 rfl rfl ?_
      refine ld_18 C (by decide) dX8_carryOut_91 h (fun h => ?_)
      refine v_aload_n C dX8_carryOut_92 rfl rfl ?_
      refine gf_X8_15 C dX8_carryOut_93 ?_
      refine v_iload_n C dX8_carryOut_96 rfl rfl ?_
      refine ld_18 C (by decide) dX8_carryOut_97 h (fun h => ?_)
      refine v_iadd C dX8_carryOut_98 ?_
      refine cVv C 5 j1 0 (av := [.int ((up σ7 49 j1 ((σ7.1 96 j1 x3.toNatClampNeg).toNatClampNeg) ((σ7.1 49 j1 ((σ7.1 96 j1 x3.toNatClampNeg).toNatClampNeg)) + (σ7.1 288 0 x3.toNatClampNeg))).1 96 j1 x3.toNatClampNeg), .int (((up σ7 49 j1 ((σ7.1 96 j1 x3.toNatClampNeg).toNatClampNeg) ((σ7.1 49 j1 ((σ7.1 96 j1 x3.toNatClampNeg).toNatClampNeg)) + (σ7.1 288 0 x3.toNatClampNeg))).1 288 0 x3.toNatClampNeg) + ((up σ7 49 j1 ((σ7.1 96 j1 x3.toNatClampNeg).toNatClampNeg) ((σ7.1 49 j1 ((σ7.1 96 j1 x3.toNatClampNeg).toNatClampNeg)) + (σ7.1 288 0 x3.toNatClampNeg))).1 288 1 x3.toNatClampNeg))]) si_X5_give lk_X8_101 (ok5 hj1) rfl rfl rfl rfl (st := []) rfl (Nat.le_of_ble_eq_true rfl) dX8_carryOut_99 h (fun _ hc => s_X5_give (d := d) j1 ((up σ7 49 j1 ((σ7.1 96 j1 x3.toNatClampNeg).toNatClampNeg) ((σ7.1 49 j1 ((σ7.1 96 j1 x3.toNatClampNeg).toNatClampNeg)) + (σ7.1 288 0 x3.toNatClampNeg))).1 96 j1 x3.toNatClampNeg) (((up σ7 49 j1 ((σ7.1 96 j1 x3.toNatClampNeg).toNatClampNeg) ((σ7.1 49 j1 ((σ7.1 96 j1 x3.toNatClampNeg).toNatClampNeg)) + (σ7.1 288 0 x3.toNatClampNeg))).1 288 0 x3.toNatClampNeg) + ((up σ7 49 j1 ((σ7.1 96 j1 x3.toNatClampNeg).toNatClampNeg) ((σ7.1 49 j1 ((σ7.1 96 j1 x3.toNatClampNeg).toNatClampNeg)) + (σ7.1 288 0 x3.toNatClampNeg))).1 288 1 x3.toNatClampNeg)) hj1 hc) (fun σ10 h => ?_)
      refine v_iinc C dX8_carryOut_102 rfl (kc_1 _) (lc1 := [some (.ref (ad G 8 0 0)), some (.ref (ad G 5 j1 0)), some (.int (x3 + 1)), some (.ref (ad G 6 j1 x3.toNatClampNeg))]) rfl ?_
      refine v_goto C dX8_carryOut_105 (tgt := 2) (by decide) ?_
      refine v_mask [true, true, true, false] (lc' := [some (.ref (ad G 8 0 0)), some (.ref (ad G 5 j1 0)), some (.int (x3 + 1)), none]) rfl ?_
      exact hrec1 _ _ h

def dc_X9_addInvestor (a1 : Int32) (σ : Sto) : Option (Int32 × Sto) :=
  (if 0 ≤ a1 then (if (σ.1 84 0 0) < (8 : Int32) then (bv (dc_X2_record 0 σ) fun σ2 => (if inb (σ2.1 84 0 0) 8 then (bv (dc_X3_open 0 ((σ2.1 84 0 0).toNatClampNeg) a1 σ2) fun σ5 => some (σ2.1 84 0 0, up σ5 84 0 0 ((σ5.1 84 0 0) + (1 : Int32)))) else none)) else some ((-3 : Int32), σ)) else some ((-2 : Int32), σ))
set_option maxRecDepth 20000 in
set_option maxHeartbeats 4000000 in
theorem s_X9_addInvestor {G : Gm} {d : Nat} (a1 : Int32) {σ τ : Sto} {r : Int32} (h : dc_X9_addInvestor a1 σ = some (r, τ)) : Cl G (d + 3) m_X9_addInvestor [.ref (ad G 9 0 0), .int a1] σ (some (.int r)) τ := by
  unfold dc_X9_addInvestor at h
  refine Cl.mk (cc := cX9_addInvestor) (own := RX9) (nL := 3) (ret := (some .int)) rfl rfl rfl rfl (by decide +kernel) (catA rfl) (Nat.le_of_ble_eq_true rfl) (fun X C => ?_)
  show V X G 0 0 (QE X G (some (.int r)) τ) σ 0 [some (.ref (ad G 9 0 0)), some (.int a1), none] []
  refine v_iload_n C dX9_addInvestor_0 rfl rfl ?_
  refine v_if_ge C dX9_addInvestor_1 (tgt := 7) (by decide) h (fun h => ?_) (fun h => ?_)
  · refine v_aload_n C dX9_addInvestor_7 rfl rfl ?_
    refine gf_X9_10 C dX9_addInvestor_8 ?_
    refine gf_X9_54 C (by decide) dX9_addInvestor_11 ?_
    refine v_bipush C dX9_addInvestor_14 kb_8 ?_
    refine v_icmp_lt C dX9_addInvestor_16 (tgt := 22) (by decide) h (fun h => ?_) (fun h => ?_)
    · refine v_aload_n C dX9_addInvestor_22 rfl rfl ?_
      refine gf_X9_29 C dX9_addInvestor_23 ?_
      refine v_aload_n C dX9_addInvestor_26 rfl rfl ?_
      refine gf_X9_10 C dX9_addInvestor_27 ?_
      refine cVv C 2 0 0 (av := [.ref (ad G 5 0 0)]) si_X2_record lk_X9_58 (ok2) rfl rfl rfl rfl (st := []) rfl (Nat.le_of_ble_eq_true rfl) dX9_addInvestor_30 h (fun _ hc => s_X2_record (d := d) 0 (by decide) hc) (fun σ2 h => ?_)
      refine v_aload_n C dX9_addInvestor_33 rfl rfl ?_
      refine gf_X9_10 C dX9_addInvestor_34 ?_
      refine gf_X9_54 C (by decide) dX9_addInvestor_37 ?_
      refine v_istore_n C dX9_addInvestor_40 rfl (Nat.le_of_ble_eq_true rfl) (lc1 := [some (.ref (ad G 9 0 0)), some (.int a1), some (.int (σ2.1 84 0 0))]) rfl ?_
      refine v_aload_n C dX9_addInvestor_41 rfl rfl ?_
      refine gf_X9_10 C dX9_addInvestor_42 ?_
      refine gf_X9_62 C (by decide) dX9_addInvestor_45 ?_
      refine v_iload_n C dX9_addInvestor_48 rfl rfl ?_
      refine lq_11 C (by decide) dX9_addInvestor_49 h (fun h hq3 => ?_)
      refine v_iload_n C dX9_addInvestor_50 rfl rfl ?_
      refine cVv C 3 0 ((σ2.1 84 0 0).toNatClampNeg) (av := [.int a1]) si_X3_open lk_X9_66 (ok3 (by decide) hq3) rfl rfl rfl rfl (st := []) rfl (Nat.le_of_ble_eq_true rfl) dX9_addInvestor_51 h (fun _ hc => s_X3_open (d := (d + 2)) 0 ((σ2.1 84 0 0).toNatClampNeg) a1 (by decide) hq3 hc) (fun σ5 h => ?_)
      refine v_aload_n C dX9_addInvestor_54 rfl rfl ?_
      refine gf_X9_10 C dX9_addInvestor_55 ?_
      refine v_dup C dX9_addInvestor_58 rfl ?_
      refine gf_X9_54 C (by decide) dX9_addInvestor_59 ?_
      refine v_iconst C dX9_addInvestor_62 ki_1 ?_
      refine v_iadd C dX9_addInvestor_63 ?_
      refine pf_X9_54 C (by decide) dX9_addInvestor_64 ?_
      refine v_iload_n C dX9_addInvestor_67 rfl rfl ?_
      exact v_iret C dX9_addInvestor_68 h
    · refine v_bipush C dX9_addInvestor_19 kb_m3 ?_
      exact v_iret C dX9_addInvestor_21 h
  · refine v_bipush C dX9_addInvestor_4 kb_m2 ?_
    exact v_iret C dX9_addInvestor_6 h

def dc_X9_deposit (a1 : Int32) (a2 : Int32) (σ : Sto) : Option (Int32 × Sto) :=
  (bd (dc_X5_hasInvestor 0 a1 σ) fun r1 σ2 => (if r1 = 0 then some ((-1 : Int32), σ2) else (if (1 : Int32) ≤ a2 then (if inb a1 8 then (if a2 ≤ ((2147483647 : Int32) - (σ2.1 48 0 a1.toNatClampNeg)) then (bv (dc_X2_record 0 σ2) fun σ5 => (if inb a1 8 then (if inb a1 8 then some ((up σ5 48 0 a1.toNatClampNeg ((σ5.1 48 0 a1.toNatClampNeg) + a2)).1 48 0 a1.toNatClampNeg, up σ5 48 0 a1.toNatClampNeg ((σ5.1 48 0 a1.toNatClampNeg) + a2)) else none) else none)) else some ((-3 : Int32), σ2)) else none) else some ((-2 : Int32), σ2))))
set_option maxRecDepth 20000 in
set_option maxHeartbeats 4000000 in
theorem s_X9_deposit {G : Gm} {d : Nat} (a1 : Int32) (a2 : Int32) {σ τ : Sto} {r : Int32} (h : dc_X9_deposit a1 a2 σ = some (r, τ)) : Cl G (d + 3) m_X9_deposit [.ref (ad G 9 0 0), .int a1, .int a2] σ (some (.int r)) τ := by
  unfold dc_X9_deposit at h
  refine Cl.mk (cc := cX9_deposit) (own := RX9) (nL := 3) (ret := (some .int)) rfl rfl rfl rfl (by decide +kernel) (catA rfl) (Nat.le_of_ble_eq_true rfl) (fun X C => ?_)
  show V X G 0 0 (QE X G (some (.int r)) τ) σ 0 [some (.ref (ad G 9 0 0)), some (.int a1), some (.int a2)] []
  refine v_aload_n C dX9_deposit_0 rfl rfl ?_
  refine gf_X9_10 C dX9_deposit_1 ?_
  refine v_iload_n C dX9_deposit_4 rfl rfl ?_
  refine cVi C 5 0 0 (av := [.int a1]) si_X5_hasInvestor lk_X9_72 (ok5 (by decide)) rfl rfl rfl rfl (st := []) rfl (Nat.le_of_ble_eq_true rfl) dX9_deposit_5 h (fun _ _ hc => s_X5_hasInvestor (d := (d + 2)) 0 a1 (by decide) hc) (fun r1 σ2 h => ?_)
  refine v_if_ne C dX9_deposit_8 (tgt := 13) (by decide) h (fun h => ?_) (fun h => ?_)
  · refine v_iload_n C dX9_deposit_13 rfl rfl ?_
    refine v_iconst C dX9_deposit_14 ki_1 ?_
    refine v_icmp_ge C dX9_deposit_15 (tgt := 21) (by decide) h (fun h => ?_) (fun h => ?_)
    · refine v_iload_n C dX9_deposit_21 rfl rfl ?_
      refine v_ldc C dX9_deposit_22 lk_X9_76 ?_
      refine v_aload_n C dX9_deposit_24 rfl rfl ?_
      refine gf_X9_10 C dX9_deposit_25 ?_
      refine gf_X9_62 C (by decide) dX9_deposit_28 ?_
      refine v_iload_n C dX9_deposit_31 rfl rfl ?_
      refine lq_11 C (by decide) dX9_deposit_32 h (fun h hq3 => ?_)
      refine gf_X9_77 C (by decide) hq3 dX9_deposit_33 ?_
      refine v_isub C dX9_deposit_36 ?_
      refine v_icmp_le C dX9_deposit_37 (tgt := 43) (by decide) h (fun h => ?_) (fun h => ?_)
      · refine v_aload_n C dX9_deposit_43 rfl rfl ?_
        refine gf_X9_29 C dX9_deposit_44 ?_
        refine v_aload_n C dX9_deposit_47 rfl rfl ?_
        refine gf_X9_10 C dX9_deposit_48 ?_
        refine cVv C 2 0 0 (av := [.ref (ad G 5 0 0)]) si_X2_record lk_X9_58 (ok2) rfl rfl rfl rfl (st := []) rfl (Nat.le_of_ble_eq_true rfl) dX9_deposit_51 h (fun _ hc => s_X2_record (d := d) 0 (by decide) hc) (fun σ5 h => ?_)
        refine v_aload_n C dX9_deposit_54 rfl rfl ?_
        refine gf_X9_10 C dX9_deposit_55 ?_
        refine gf_X9_62 C (by decide) dX9_deposit_58 ?_
        refine v_iload_n C dX9_deposit_61 rfl rfl ?_
        refine lq_11 C (by decide) dX9_deposit_62 h (fun h hq6 => ?_)
        refine v_dup C dX9_deposit_63 rfl ?_
        refine gf_X9_77 C (by decide) hq6 dX9_deposit_64 ?_
        refine v_iload_n C dX9_deposit_67 rfl rfl ?_
        refine v_iadd C dX9_deposit_68 ?_
        refine pf_X9_77 C (by decide) hq6 dX9_deposit_69 ?_
        refine v_aload_n C dX9_deposit_72 rfl rfl ?_
        refine gf_X9_10 C dX9_deposit_73 ?_
        refine gf_X9_62 C (by decide) dX9_deposit_76 ?_
        refine v_iload_n C dX9_deposit_79 rfl rfl ?_
        refine lq_11 C (by decide) dX9_deposit_80 h (fun h hq7 => ?_)
        refine gf_X9_77 C (by decide) hq7 dX9_deposit_81 ?_
        exact v_iret C dX9_deposit_84 h
      · refine v_bipush C dX9_deposit_40 kb_m3 ?_
        exact v_iret C dX9_deposit_42 h
    · refine v_bipush C dX9_deposit_18 kb_m2 ?_
      exact v_iret C dX9_deposit_20 h
  · refine v_iconst C dX9_deposit_11 ki_m1 ?_
    exact v_iret C dX9_deposit_12 h

def dc_X9_setPoolShare (a1 : Int32) (σ : Sto) : Option (Int32 × Sto) :=
  (if a1 < 0 then some ((-2 : Int32), σ) else (if a1 ≤ (50 : Int32) then (if a1 = (σ.1 89 0 0) then some ((-5 : Int32), σ) else (bv (dc_X2_record 0 σ) fun σ2 => some (σ2.1 89 0 0, up σ2 89 0 0 a1))) else some ((-2 : Int32), σ)))
set_option maxRecDepth 20000 in
set_option maxHeartbeats 4000000 in
theorem s_X9_setPoolShare {G : Gm} {d : Nat} (a1 : Int32) {σ τ : Sto} {r : Int32} (h : dc_X9_setPoolShare a1 σ = some (r, τ)) : Cl G (d + 3) m_X9_setPoolShare [.ref (ad G 9 0 0), .int a1] σ (some (.int r)) τ := by
  unfold dc_X9_setPoolShare at h
  refine Cl.mk (cc := cX9_setPoolShare) (own := RX9) (nL := 3) (ret := (some .int)) rfl rfl rfl rfl (by decide +kernel) (catA rfl) (Nat.le_of_ble_eq_true rfl) (fun X C => ?_)
  show V X G 0 0 (QE X G (some (.int r)) τ) σ 0 [some (.ref (ad G 9 0 0)), some (.int a1), none] []
  refine v_iload_n C dX9_setPoolShare_0 rfl rfl ?_
  refine v_if_lt C dX9_setPoolShare_1 (tgt := 10) (by decide) h (fun h => ?_) (fun h => ?_)
  · refine v_bipush C dX9_setPoolShare_10 kb_m2 ?_
    exact v_iret C dX9_setPoolShare_12 h
  · refine v_iload_n C dX9_setPoolShare_4 rfl rfl ?_
    refine v_bipush C dX9_setPoolShare_5 kb_50 ?_
    refine v_icmp_le C dX9_setPoolShare_7 (tgt := 13) (by decide) h (fun h => ?_) (fun h => ?_)
    · refine v_iload_n C dX9_setPoolShare_13 rfl rfl ?_
      refine v_aload_n C dX9_setPoolShare_14 rfl rfl ?_
      refine gf_X9_10 C dX9_setPoolShare_15 ?_
      refine gf_X9_80 C (by decide) dX9_setPoolShare_18 ?_
      refine v_icmp_ne C dX9_setPoolShare_21 (tgt := 27) (by decide) h (fun h => ?_) (fun h => ?_)
      · refine v_aload_n C dX9_setPoolShare_27 rfl rfl ?_
        refine gf_X9_29 C dX9_setPoolShare_28 ?_
        refine v_aload_n C dX9_setPoolShare_31 rfl rfl ?_
        refine gf_X9_10 C dX9_setPoolShare_32 ?_
        refine cVv C 2 0 0 (av := [.ref (ad G 5 0 0)]) si_X2_record lk_X9_58 (ok2) rfl rfl rfl rfl (st := []) rfl (Nat.le_of_ble_eq_true rfl) dX9_setPoolShare_35 h (fun _ hc => s_X2_record (d := d) 0 (by decide) hc) (fun σ2 h => ?_)
        refine v_aload_n C dX9_setPoolShare_38 rfl rfl ?_
        refine gf_X9_10 C dX9_setPoolShare_39 ?_
        refine gf_X9_80 C (by decide) dX9_setPoolShare_42 ?_
        refine v_istore_n C dX9_setPoolShare_45 rfl (Nat.le_of_ble_eq_true rfl) (lc1 := [some (.ref (ad G 9 0 0)), some (.int a1), some (.int (σ2.1 89 0 0))]) rfl ?_
        refine v_aload_n C dX9_setPoolShare_46 rfl rfl ?_
        refine gf_X9_10 C dX9_setPoolShare_47 ?_
        refine v_iload_n C dX9_setPoolShare_50 rfl rfl ?_
        refine pf_X9_80 C (by decide) dX9_setPoolShare_51 ?_
        refine v_iload_n C dX9_setPoolShare_54 rfl rfl ?_
        exact v_iret C dX9_setPoolShare_55 h
      · refine v_bipush C dX9_setPoolShare_24 kb_m5 ?_
        exact v_iret C dX9_setPoolShare_26 h
    · refine v_bipush C dX9_setPoolShare_10 kb_m2 ?_
      exact v_iret C dX9_setPoolShare_12 h

def dc_X9_isLoanMonths (a0 : Int32) (σ : Sto) : Option (Int32 × Sto) :=
  (if a0 < (1 : Int32) then some ((0 : Int32), σ) else (if (36 : Int32) < a0 then some ((0 : Int32), σ) else some ((1 : Int32), σ)))
set_option maxRecDepth 20000 in
set_option maxHeartbeats 4000000 in
theorem s_X9_isLoanMonths {G : Gm} {d : Nat} (a0 : Int32) {σ τ : Sto} {r : Int32} (h : dc_X9_isLoanMonths a0 σ = some (r, τ)) : Cl G d m_X9_isLoanMonths [.int a0] σ (some (.int r)) τ := by
  unfold dc_X9_isLoanMonths at h
  refine Cl.mk (cc := cX9_isLoanMonths) (own := RX9) (nL := 1) (ret := (some .boolean)) rfl rfl rfl rfl (by decide +kernel) (catA rfl) (Nat.le_of_ble_eq_true rfl) (fun X C => ?_)
  show V X G 0 0 (QE X G (some (.int r)) τ) σ 0 [some (.int a0)] []
  refine v_iload_n C dX9_isLoanMonths_0 rfl rfl ?_
  refine v_iconst C dX9_isLoanMonths_1 ki_1 ?_
  refine v_icmp_lt C dX9_isLoanMonths_2 (tgt := 15) (by decide) h (fun h => ?_) (fun h => ?_)
  · refine v_iconst C dX9_isLoanMonths_15 ki_0 ?_
    exact v_zretc C dX9_isLoanMonths_16 (nar01 (Or.inl rfl)) h
  · refine v_iload_n C dX9_isLoanMonths_5 rfl rfl ?_
    refine v_bipush C dX9_isLoanMonths_6 kb_36 ?_
    refine v_icmp_gt C dX9_isLoanMonths_8 (tgt := 15) (by decide) h (fun h => ?_) (fun h => ?_)
    · refine v_iconst C dX9_isLoanMonths_15 ki_0 ?_
      exact v_zretc C dX9_isLoanMonths_16 (nar01 (Or.inl rfl)) h
    · refine v_iconst C dX9_isLoanMonths_11 ki_1 ?_
      refine v_goto C dX9_isLoanMonths_12 (tgt := 16) (by decide) ?_
      exact v_zretc C dX9_isLoanMonths_16 (nar01 (Or.inr rfl)) h

def dc_X9_openLoan (a1 : Int32) (a2 : Int32) (a3 : Int32) (σ : Sto) : Option (Int32 × Sto) :=
  (if a1 < (100 : Int32) then some ((-2 : Int32), σ) else (if (99999 : Int32) < a1 then some ((-2 : Int32), σ) else (if a2 < 0 then some ((-2 : Int32), σ) else (if (50 : Int32) < a2 then some ((-2 : Int32), σ) else (bd (dc_X9_isLoanMonths a3 σ) fun r1 σ2 => (if r1 = 0 then some ((-2 : Int32), σ2) else (if (σ2.1 85 0 0) < (10 : Int32) then (bv (dc_X2_record 0 σ2) fun σ4 => (if inb (σ4.1 85 0 0) 10 then (bv (dc_X4_open 0 ((σ4.1 85 0 0).toNatClampNeg) a1 a2 a3 σ4) fun σ7 => some (σ4.1 85 0 0, up σ7 85 0 0 ((σ7.1 85 0 0) + (1 : Int32)))) else none)) else some ((-3 : Int32), σ2))))))))
set_option maxRecDepth 20000 in
set_option maxHeartbeats 4000000 in
theorem s_X9_openLoan {G : Gm} {d : Nat} (a1 : Int32) (a2 : Int32) (a3 : Int32) {σ τ : Sto} {r : Int32} (h : dc_X9_openLoan a1 a2 a3 σ = some (r, τ)) : Cl G (d + 3) m_X9_openLoan [.ref (ad G 9 0 0), .int a1, .int a2, .int a3] σ (some (.int r)) τ := by
  unfold dc_X9_openLoan at h
  refine Cl.mk (cc := cX9_openLoan) (own := RX9) (nL := 5) (ret := (some .int)) rfl rfl rfl rfl (by decide +kernel) (catA rfl) (Nat.le_of_ble_eq_true rfl) (fun X C => ?_)
  show V X G 0 0 (QE X G (some (.int r)) τ) σ 0 [some (.ref (ad G 9 0 0)), some (.int a1), some (.int a2), some (.int a3), none] []
  refine v_iload_n C dX9_openLoan_0 rfl rfl ?_
  refine v_bipush C dX9_openLoan_1 kb_100 ?_
  refine v_icmp_lt C dX9_openLoan_3 (tgt := 29) (by decide) h (fun h => ?_) (fun h => ?_)
  · refine v_bipush C dX9_openLoan_29 kb_m2 ?_
    exact v_iret C dX9_openLoan_31 h
  · refine v_iload_n C dX9_openLoan_6 rfl rfl ?_
    refine v_ldc C dX9_openLoan_7 lk_X9_83 ?_
    refine v_icmp_gt C dX9_openLoan_9 (tgt := 29) (by decide) h (fun h => ?_) (fun h => ?_)
    · refine v_bipush C dX9_openLoan_29 kb_m2 ?_
      exact v_iret C dX9_openLoan_31 h
    · refine v_iload_n C dX9_openLoan_12 rfl rfl ?_
      refine v_if_lt C dX9_openLoan_13 (tgt := 29) (by decide) h (fun h => ?_) (fun h => ?_)
      · refine v_bipush C dX9_openLoan_29 kb_m2 ?_
        exact v_iret C dX9_openLoan_31 h
      · refine v_iload_n C dX9_openLoan_16 rfl rfl ?_
        refine v_bipush C dX9_openLoan_17 kb_50 ?_
        refine v_icmp_gt C dX9_openLoan_19 (tgt := 29) (by decide) h (fun h => ?_) (fun h => ?_)
        · refine v_bipush C dX9_openLoan_29 kb_m2 ?_
          exact v_iret C dX9_openLoan_31 h
        · refine v_iload_n C dX9_openLoan_22 rfl rfl ?_
          refine cSi C (av := [.int a3]) si_X9_isLoanMonths lk_X9_84 rfl rfl (st := []) rfl (Nat.le_of_ble_eq_true rfl) dX9_openLoan_23 h (fun _ _ hc => s_X9_isLoanMonths (d := (d + 2)) a3  hc) (fun r1 σ2 h => ?_)
          refine v_if_ne C dX9_openLoan_26 (tgt := 32) (by decide) h (fun h => ?_) (fun h => ?_)
          · refine v_aload_n C dX9_openLoan_32 rfl rfl ?_
            refine gf_X9_10 C dX9_openLoan_33 ?_
            refine gf_X9_87 C (by decide) dX9_openLoan_36 ?_
            refine v_bipush C dX9_openLoan_39 kb_10 ?_
            refine v_icmp_lt C dX9_openLoan_41 (tgt := 47) (by decide) h (fun h => ?_) (fun h => ?_)
            · refine v_aload_n C dX9_openLoan_47 rfl rfl ?_
              refine gf_X9_29 C dX9_openLoan_48 ?_
              refine v_aload_n C dX9_openLoan_51 rfl rfl ?_
              refine gf_X9_10 C dX9_openLoan_52 ?_
              refine cVv C 2 0 0 (av := [.ref (ad G 5 0 0)]) si_X2_record lk_X9_58 (ok2) rfl rfl rfl rfl (st := []) rfl (Nat.le_of_ble_eq_true rfl) dX9_openLoan_55 h (fun _ hc => s_X2_record (d := d) 0 (by decide) hc) (fun σ4 h => ?_)
              refine v_aload_n C dX9_openLoan_58 rfl rfl ?_
              refine gf_X9_10 C dX9_openLoan_59 ?_
              refine gf_X9_87 C (by decide) dX9_openLoan_62 ?_
              refine v_istore C dX9_openLoan_65 (Nat.le_of_ble_eq_true rfl) (lc1 := [some (.ref (ad G 9 0 0)), some (.int a1), some (.int a2), some (.int a3), some (.int (σ4.1 85 0 0))]) rfl ?_
              refine v_aload_n C dX9_openLoan_67 rfl rfl ?_
              refine gf_X9_10 C dX9_openLoan_68 ?_
              refine gf_X9_90 C (by decide) dX9_openLoan_71 ?_
              refine v_iload C dX9_openLoan_74 rfl ?_
              refine lq_12 C (by decide) dX9_openLoan_76 h (fun h hq5 => ?_)
              refine v_iload_n C dX9_openLoan_77 rfl rfl ?_
              refine v_iload_n C dX9_openLoan_78 rfl rfl ?_
              refine v_iload_n C dX9_openLoan_79 rfl rfl ?_
              refine cVv C 4 0 ((σ4.1 85 0 0).toNatClampNeg) (av := [.int a1, .int a2, .int a3]) si_X4_open lk_X9_94 (ok4 (by decide) hq5) rfl rfl rfl rfl (st := []) rfl (Nat.le_of_ble_eq_true rfl) dX9_openLoan_80 h (fun _ hc => s_X4_open (d := (d + 2)) 0 ((σ4.1 85 0 0).toNatClampNeg) a1 a2 a3 (by decide) hq5 hc) (fun σ7 h => ?_)
              refine v_aload_n C dX9_openLoan_83 rfl rfl ?_
              refine gf_X9_10 C dX9_openLoan_84 ?_
              refine v_dup C dX9_openLoan_87 rfl ?_
              refine gf_X9_87 C (by decide) dX9_openLoan_88 ?_
              refine v_iconst C dX9_openLoan_91 ki_1 ?_
              refine v_iadd C dX9_openLoan_92 ?_
              refine pf_X9_87 C (by decide) dX9_openLoan_93 ?_
              refine v_iload C dX9_openLoan_96 rfl ?_
              exact v_iret C dX9_openLoan_98 h
            · refine v_bipush C dX9_openLoan_44 kb_m3 ?_
              exact v_iret C dX9_openLoan_46 h
          · refine v_bipush C dX9_openLoan_29 kb_m2 ?_
            exact v_iret C dX9_openLoan_31 h

def dc_X9_fund (a1 : Int32) (a2 : Int32) (a3 : Int32) (a4 : Int32) (σ : Sto) : Option (Int32 × Sto) :=
  (bd (dc_X5_fundingError 0 a1 a2 a4 σ) fun r1 σ2 => (if r1 = 0 then (bv (dc_X2_record 0 σ2) fun σ4 => jn (fun (v5 : Int32) => (bv (dc_X5_addNote 0 a1 a2 v5 a4 σ4) fun σ8 => (bd (dc_X5_missing 0 a2 σ8) fun r9 σ10 => some (r9, σ10)))) (fun k6 => (if a3 = 0 then k6 (0 : Int32) else k6 (1 : Int32)))) else some (r1, σ2)))
set_option maxRecDepth 20000 in
set_option maxHeartbeats 4000000 in
theorem s_X9_fund {G : Gm} {d : Nat} (a1 : Int32) (a2 : Int32) (a3 : Int32) (a4 : Int32) {σ τ : Sto} {r : Int32} (h : dc_X9_fund a1 a2 a3 a4 σ = some (r, τ)) : Cl G (d + 4) m_X9_fund [.ref (ad G 9 0 0), .int a1, .int a2, .int a3, .int a4] σ (some (.int r)) τ := by
  unfold dc_X9_fund at h
  refine Cl.mk (cc := cX9_fund) (own := RX9) (nL := 6) (ret := (some .int)) rfl rfl rfl rfl (by decide +kernel) (catA rfl) (Nat.le_of_ble_eq_true rfl) (fun X C => ?_)
  show V X G 0 0 (QE X G (some (.int r)) τ) σ 0 [some (.ref (ad G 9 0 0)), some (.int a1), some (.int a2), some (.int a3), some (.int a4), none] []
  refine v_aload_n C dX9_fund_0 rfl rfl ?_
  refine gf_X9_10 C dX9_fund_1 ?_
  refine v_iload_n C dX9_fund_4 rfl rfl ?_
  refine v_iload_n C dX9_fund_5 rfl rfl ?_
  refine v_iload C dX9_fund_6 rfl ?_
  refine cVi C 5 0 0 (av := [.int a1, .int a2, .int a4]) si_X5_fundingError lk_X9_99 (ok5 (by decide)) rfl rfl rfl rfl (st := []) rfl (Nat.le_of_ble_eq_true rfl) dX9_fund_8 h (fun _ _ hc => s_X5_fundingError (d := (d + 1)) 0 a1 a2 a4 (by decide) hc) (fun r1 σ2 h => ?_)
  refine v_istore C dX9_fund_11 (Nat.le_of_ble_eq_true rfl) (lc1 := [some (.ref (ad G 9 0 0)), some (.int a1), some (.int a2), some (.int a3), some (.int a4), some (.int r1)]) rfl ?_
  refine v_iload C dX9_fund_13 rfl ?_
  refine v_if_eq C dX9_fund_15 (tgt := 21) (by decide) h (fun h => ?_) (fun h => ?_)
  · refine v_aload_n C dX9_fund_21 rfl rfl ?_
    refine gf_X9_29 C dX9_fund_22 ?_
    refine v_aload_n C dX9_fund_25 rfl rfl ?_
    refine gf_X9_10 C dX9_fund_26 ?_
    refine cVv C 2 0 0 (av := [.ref (ad G 5 0 0)]) si_X2_record lk_X9_58 (ok2) rfl rfl rfl rfl (st := []) rfl (Nat.le_of_ble_eq_true rfl) dX9_fund_29 h (fun _ hc => s_X2_record (d := (d + 1)) 0 (by decide) hc) (fun σ4 h => ?_)
    refine v_aload_n C dX9_fund_32 rfl rfl ?_
    refine gf_X9_10 C dX9_fund_33 ?_
    refine v_iload_n C dX9_fund_36 rfl rfl ?_
    refine v_iload_n C dX9_fund_37 rfl rfl ?_
    refine v_iload_n C dX9_fund_38 rfl rfl ?_
    refine v_join (fun k => ∀ (v5 : Int32), k v5 = some (r, τ) → V X G 0 0 (QE X G (some (.int r)) τ) σ4 47 [some (.ref (ad G 9 0 0)), some (.int a1), some (.int a2), some (.int a3), some (.int a4), some (.int r1)] [.int v5, .int a2, .int a1, .ref (ad G 5 0 0)]) h (fun v5 h => ?_) (fun k6 hk6 h => ?_)
    · refine v_iload C dX9_fund_47 rfl ?_
      refine cVv C 5 0 0 (av := [.int a1, .int a2, .int v5, .int a4]) si_X5_addNote lk_X9_103 (ok5 (by decide)) rfl rfl rfl rfl (st := []) rfl (Nat.le_of_ble_eq_true rfl) dX9_fund_49 h (fun _ hc => s_X5_addNote (d := d) 0 a1 a2 v5 a4 (by decide) hc) (fun σ8 h => ?_)
      refine v_aload_n C dX9_fund_52 rfl rfl ?_
      refine gf_X9_10 C dX9_fund_53 ?_
      refine v_iload_n C dX9_fund_56 rfl rfl ?_
      refine cVi C 5 0 0 (av := [.int a2]) si_X5_missing lk_X9_107 (ok5 (by decide)) rfl rfl rfl rfl (st := []) rfl (Nat.le_of_ble_eq_true rfl) dX9_fund_57 h (fun _ _ hc => s_X5_missing (d := (d + 2)) 0 a2 (by decide) hc) (fun r9 σ10 h => ?_)
      exact v_iret C dX9_fund_60 h
    · refine v_if_eq C dX9_fund_39 (tgt := 46) (by decide) h (fun h => ?_) (fun h => ?_)
      · refine v_iconst C dX9_fund_46 ki_0 ?_
        refine v_mask [true, true, true, true, true, true] (lc' := [some (.ref (ad G 9 0 0)), some (.int a1), some (.int a2), some (.int a3), some (.int a4), some (.int r1)]) rfl ?_
        exact hk6 _ h
      · refine v_iconst C dX9_fund_42 ki_1 ?_
        refine v_goto C dX9_fund_43 (tgt := 47) (by decide) ?_
        refine v_mask [true, true, true, true, true, true] (lc' := [some (.ref (ad G 9 0 0)), some (.int a1), some (.int a2), some (.int a3), some (.int a4), some (.int r1)]) rfl ?_
        exact hk6 _ h
  · refine v_iload C dX9_fund_18 rfl ?_
    exact v_iret C dX9_fund_20 h

def dc_X9_giveUp (a1 : Int32) (σ : Sto) : Option (Int32 × Sto) :=
  (bd (dc_X5_hasLoan 0 a1 σ) fun r1 σ2 => (if r1 = 0 then some ((-1 : Int32), σ2) else (if inb a1 10 then (if (σ2.1 64 0 a1.toNatClampNeg) = 0 then (bd (dc_X5_principals 0 a1 (0 : Int32) σ2) fun r4 σ5 => (bd (dc_X5_principals 0 a1 (1 : Int32) σ5) fun r6 σ7 => (bv (dc_X8_ofGivingUp 0 a1 σ7) fun σ9 => (bd (dc_X8_fits 0 σ9) fun r10 σ11 => (if r10 = 0 then some ((-3 : Int32), σ11) else (bv (dc_X2_record 0 σ11) fun σ13 => (bv (dc_X8_carryOut 0 σ13) fun σ15 => (if inb a1 10 then (bv (dc_X4_end 0 a1.toNatClampNeg (4 : Int32) σ15) fun σ18 => some (r4 + r6, σ18)) else none)))))))) else some ((-4 : Int32), σ2)) else none)))
set_option maxRecDepth 20000 in
set_option maxHeartbeats 4000000 in
theorem s_X9_giveUp {G : Gm} {d : Nat} (a1 : Int32) {σ τ : Sto} {r : Int32} (h : dc_X9_giveUp a1 σ = some (r, τ)) : Cl G (d + 3) m_X9_giveUp [.ref (ad G 9 0 0), .int a1] σ (some (.int r)) τ := by
  unfold dc_X9_giveUp at h
  refine Cl.mk (cc := cX9_giveUp) (own := RX9) (nL := 3) (ret := (some .int)) rfl rfl rfl rfl (by decide +kernel) (catA rfl) (Nat.le_of_ble_eq_true rfl) (fun X C => ?_)
  show V X G 0 0 (QE X G (some (.int r)) τ) σ 0 [some (.ref (ad G 9 0 0)), some (.int a1), none] []
  refine v_aload_n C dX9_giveUp_0 rfl rfl ?_
  refine gf_X9_10 C dX9_giveUp_1 ?_
  refine v_iload_n C dX9_giveUp_4 rfl rfl ?_
  refine cVi C 5 0 0 (av := [.int a1]) si_X5_hasLoan lk_X9_111 (ok5 (by decide)) rfl rfl rfl rfl (st := []) rfl (Nat.le_of_ble_eq_true rfl) dX9_giveUp_5 h (fun _ _ hc => s_X5_hasLoan (d := (d + 2)) 0 a1 (by decide) hc) (fun r1 σ2 h => ?_)
  refine v_if_ne C dX9_giveUp_8 (tgt := 13) (by decide) h (fun h => ?_) (fun h => ?_)
  · refine v_aload_n C dX9_giveUp_13 rfl rfl ?_
    refine gf_X9_10 C dX9_giveUp_14 ?_
    refine gf_X9_90 C (by decide) dX9_giveUp_17 ?_
    refine v_iload_n C dX9_giveUp_20 rfl rfl ?_
    refine lq_12 C (by decide) dX9_giveUp_21 h (fun h hq3 => ?_)
    refine gf_X9_114 C (by decide) hq3 dX9_giveUp_22 ?_
    refine v_if_eq C dX9_giveUp_25 (tgt := 31) (by decide) h (fun h => ?_) (fun h => ?_)
    · refine v_aload_n C dX9_giveUp_31 rfl rfl ?_
      refine gf_X9_10 C dX9_giveUp_32 ?_
      refine v_iload_n C dX9_giveUp_35 rfl rfl ?_
      refine v_iconst C dX9_giveUp_36 ki_0 ?_
      refine cVi C 5 0 0 (av := [.int a1, .int (0 : Int32)]) si_X5_principals lk_X9_117 (ok5 (by decide)) rfl rfl rfl rfl (st := []) rfl (Nat.le_of_ble_eq_true rfl) dX9_giveUp_37 h (fun _ _ hc => s_X5_principals (d := (d + 2)) 0 a1 (0 : Int32) (by decide) hc) (fun r4 σ5 h => ?_)
      refine v_aload_n C dX9_giveUp_40 rfl rfl ?_
      refine gf_X9_10 C dX9_giveUp_41 ?_
      refine v_iload_n C dX9_giveUp_44 rfl rfl ?_
      refine v_iconst C dX9_giveUp_45 ki_1 ?_
      refine cVi C 5 0 0 (av := [.int a1, .int (1 : Int32)]) si_X5_principals lk_X9_117 (ok5 (by decide)) rfl rfl rfl rfl (st := [.int r4]) rfl (Nat.le_of_ble_eq_true rfl) dX9_giveUp_46 h (fun _ _ hc => s_X5_principals (d := (d + 2)) 0 a1 (1 : Int32) (by decide) hc) (fun r6 σ7 h => ?_)
      refine v_iadd C dX9_giveUp_49 ?_
      refine v_istore_n C dX9_giveUp_50 rfl (Nat.le_of_ble_eq_true rfl) (lc1 := [some (.ref (ad G 9 0 0)), some (.int a1), some (.int (r4 + r6))]) rfl ?_
      refine v_aload_n C dX9_giveUp_51 rfl rfl ?_
      refine gf_X9_50 C dX9_giveUp_52 ?_
      refine v_aload_n C dX9_giveUp_55 rfl rfl ?_
      refine gf_X9_10 C dX9_giveUp_56 ?_
      refine v_iload_n C dX9_giveUp_59 rfl rfl ?_
      refine cVv C 8 0 0 (av := [.ref (ad G 5 0 0), .int a1]) si_X8_ofGivingUp lk_X9_121 (ok8) rfl rfl rfl rfl (st := []) rfl (Nat.le_of_ble_eq_true rfl) dX9_giveUp_60 h (fun _ hc => s_X8_ofGivingUp (d := (d + 1)) 0 a1 (by decide) hc) (fun σ9 h => ?_)
      refine v_aload_n C dX9_giveUp_63 rfl rfl ?_
      refine gf_X9_50 C dX9_giveUp_64 ?_
      refine v_aload_n C dX9_giveUp_67 rfl rfl ?_
      refine gf_X9_10 C dX9_giveUp_68 ?_
      refine cVi C 8 0 0 (av := [.ref (ad G 5 0 0)]) si_X8_fits lk_X9_125 (ok8) rfl rfl rfl rfl (st := []) rfl (Nat.le_of_ble_eq_true rfl) dX9_giveUp_71 h (fun _ _ hc => s_X8_fits (d := (d + 2)) 0 (by decide) hc) (fun r10 σ11 h => ?_)
      refine v_if_ne C dX9_giveUp_74 (tgt := 80) (by decide) h (fun h => ?_) (fun h => ?_)
      · refine v_aload_n C dX9_giveUp_80 rfl rfl ?_
        refine gf_X9_29 C dX9_giveUp_81 ?_
        refine v_aload_n C dX9_giveUp_84 rfl rfl ?_
        refine gf_X9_10 C dX9_giveUp_85 ?_
        refine cVv C 2 0 0 (av := [.ref (ad G 5 0 0)]) si_X2_record lk_X9_58 (ok2) rfl rfl rfl rfl (st := []) rfl (Nat.le_of_ble_eq_true rfl) dX9_giveUp_88 h (fun _ hc => s_X2_record (d := d) 0 (by decide) hc) (fun σ13 h => ?_)
        refine v_aload_n C dX9_giveUp_91 rfl rfl ?_
        refine gf_X9_50 C dX9_giveUp_92 ?_
        refine v_aload_n C dX9_giveUp_95 rfl rfl ?_
        refine gf_X9_10 C dX9_giveUp_96 ?_
        refine cVv C 8 0 0 (av := [.ref (ad G 5 0 0)]) si_X8_carryOut lk_X9_129 (ok8) rfl rfl rfl rfl (st := []) rfl (Nat.le_of_ble_eq_true rfl) dX9_giveUp_99 h (fun _ hc => s_X8_carryOut (d := d) 0 (by decide) hc) (fun σ15 h => ?_)
        refine v_aload_n C dX9_giveUp_102 rfl rfl ?_
        refine gf_X9_10 C dX9_giveUp_103 ?_
        refine gf_X9_90 C (by decide) dX9_giveUp_106 ?_
        refine v_iload_n C dX9_giveUp_109 rfl rfl ?_
        refine lq_12 C (by decide) dX9_giveUp_110 h (fun h hq16 => ?_)
        refine v_iconst C dX9_giveUp_111 ki_4 ?_
        refine cVv C 4 0 a1.toNatClampNeg (av := [.int (4 : Int32)]) si_X4_end lk_X9_132 (ok4 (by decide) hq16) rfl rfl rfl rfl (st := []) rfl (Nat.le_of_ble_eq_true rfl) dX9_giveUp_112 h (fun _ hc => s_X4_end (d := (d + 2)) 0 a1.toNatClampNeg (4 : Int32) (by decide) hq16 hc) (fun σ18 h => ?_)
        refine v_iload_n C dX9_giveUp_115 rfl rfl ?_
        exact v_iret C dX9_giveUp_116 h
      · refine v_bipush C dX9_giveUp_77 kb_m3 ?_
        exact v_iret C dX9_giveUp_79 h
    · refine v_bipush C dX9_giveUp_28 kb_m4 ?_
      exact v_iret C dX9_giveUp_30 h
  · refine v_iconst C dX9_giveUp_11 ki_m1 ?_
    exact v_iret C dX9_giveUp_12 h

def dc_X9_isPayment (a0 : Int32) (σ : Sto) : Option (Int32 × Sto) :=
  (if a0 < (1 : Int32) then some ((0 : Int32), σ) else (if (199999 : Int32) < a0 then some ((0 : Int32), σ) else some ((1 : Int32), σ)))
set_option maxRecDepth 20000 in
set_option maxHeartbeats 4000000 in
theorem s_X9_isPayment {G : Gm} {d : Nat} (a0 : Int32) {σ τ : Sto} {r : Int32} (h : dc_X9_isPayment a0 σ = some (r, τ)) : Cl G d m_X9_isPayment [.int a0] σ (some (.int r)) τ := by
  unfold dc_X9_isPayment at h
  refine Cl.mk (cc := cX9_isPayment) (own := RX9) (nL := 1) (ret := (some .boolean)) rfl rfl rfl rfl (by decide +kernel) (catA rfl) (Nat.le_of_ble_eq_true rfl) (fun X C => ?_)
  show V X G 0 0 (QE X G (some (.int r)) τ) σ 0 [some (.int a0)] []
  refine v_iload_n C dX9_isPayment_0 rfl rfl ?_
  refine v_iconst C dX9_isPayment_1 ki_1 ?_
  refine v_icmp_lt C dX9_isPayment_2 (tgt := 16) (by decide) h (fun h => ?_) (fun h => ?_)
  · refine v_iconst C dX9_isPayment_16 ki_0 ?_
    exact v_zretc C dX9_isPayment_17 (nar01 (Or.inl rfl)) h
  · refine v_iload_n C dX9_isPayment_5 rfl rfl ?_
    refine v_ldcw C dX9_isPayment_6 lk_X9_338 ?_
    refine v_icmp_gt C dX9_isPayment_9 (tgt := 16) (by decide) h (fun h => ?_) (fun h => ?_)
    · refine v_iconst C dX9_isPayment_16 ki_0 ?_
      exact v_zretc C dX9_isPayment_17 (nar01 (Or.inl rfl)) h
    · refine v_iconst C dX9_isPayment_12 ki_1 ?_
      refine v_goto C dX9_isPayment_13 (tgt := 17) (by decide) ?_
      exact v_zretc C dX9_isPayment_17 (nar01 (Or.inr rfl)) h

def dc_X9_pay (a1 : Int32) (a2 : Int32) (σ : Sto) : Option (Int32 × Sto) :=
  (bd (dc_X5_hasLoan 0 a1 σ) fun r1 σ2 => (if r1 = 0 then some ((-1 : Int32), σ2) else (bd (dc_X9_isPayment a2 σ2) fun r3 σ4 => (if r3 = 0 then some ((-2 : Int32), σ4) else (bd (dc_X7_areOf 0 a1 a2 σ4) fun r5 σ6 => (if r5 = 0 then some ((-4 : Int32), σ6) else (bv (dc_X8_ofPayment 0 a1 σ6) fun σ8 => (bd (dc_X8_fits 0 σ8) fun r9 σ10 => (if r9 = 0 then some ((-3 : Int32), σ10) else (bv (dc_X2_record 0 σ10) fun σ12 => (bv (dc_X8_carryOut 0 σ12) fun σ14 => (bv (dc_X5_takePayment 0 a1 σ14) fun σ16 => (if inb a1 10 then some (σ16.1 68 0 a1.toNatClampNeg, σ16) else none)))))))))))))
set_option maxRecDepth 20000 in
set_option maxHeartbeats 4000000 in
theorem s_X9_pay {G : Gm} {d : Nat} (a1 : Int32) (a2 : Int32) {σ τ : Sto} {r : Int32} (h : dc_X9_pay a1 a2 σ = some (r, τ)) : Cl G (d + 3) m_X9_pay [.ref (ad G 9 0 0), .int a1, .int a2] σ (some (.int r)) τ := by
  unfold dc_X9_pay at h
  refine Cl.mk (cc := cX9_pay) (own := RX9) (nL := 3) (ret := (some .int)) rfl rfl rfl rfl (by decide +kernel) (catA rfl) (Nat.le_of_ble_eq_true rfl) (fun X C => ?_)
  show V X G 0 0 (QE X G (some (.int r)) τ) σ 0 [some (.ref (ad G 9 0 0)), some (.int a1), some (.int a2)] []
  refine v_aload_n C dX9_pay_0 rfl rfl ?_
  refine gf_X9_10 C dX9_pay_1 ?_
  refine v_iload_n C dX9_pay_4 rfl rfl ?_
  refine cVi C 5 0 0 (av := [.int a1]) si_X5_hasLoan lk_X9_111 (ok5 (by decide)) rfl rfl rfl rfl (st := []) rfl (Nat.le_of_ble_eq_true rfl) dX9_pay_5 h (fun _ _ hc => s_X5_hasLoan (d := (d + 2)) 0 a1 (by decide) hc) (fun r1 σ2 h => ?_)
  refine v_if_ne C dX9_pay_8 (tgt := 13) (by decide) h (fun h => ?_) (fun h => ?_)
  · refine v_iload_n C dX9_pay_13 rfl rfl ?_
    refine cSi C (av := [.int a2]) si_X9_isPayment lk_X9_135 rfl rfl (st := []) rfl (Nat.le_of_ble_eq_true rfl) dX9_pay_14 h (fun _ _ hc => s_X9_isPayment (d := (d + 2)) a2  hc) (fun r3 σ4 h => ?_)
    refine v_if_ne C dX9_pay_17 (tgt := 23) (by decide) h (fun h => ?_) (fun h => ?_)
    · refine v_aload_n C dX9_pay_23 rfl rfl ?_
      refine gf_X9_43 C dX9_pay_24 ?_
      refine v_aload_n C dX9_pay_27 rfl rfl ?_
      refine gf_X9_10 C dX9_pay_28 ?_
      refine v_iload_n C dX9_pay_31 rfl rfl ?_
      refine v_iload_n C dX9_pay_32 rfl rfl ?_
      refine cVi C 7 0 0 (av := [.ref (ad G 5 0 0), .int a1, .int a2]) si_X7_areOf lk_X9_138 (ok7) rfl rfl rfl rfl (st := []) rfl (Nat.le_of_ble_eq_true rfl) dX9_pay_33 h (fun _ _ hc => s_X7_areOf (d := d) 0 a1 a2 (by decide) hc) (fun r5 σ6 h => ?_)
      refine v_if_ne C dX9_pay_36 (tgt := 42) (by decide) h (fun h => ?_) (fun h => ?_)
      · refine v_aload_n C dX9_pay_42 rfl rfl ?_
        refine gf_X9_50 C dX9_pay_43 ?_
        refine v_aload_n C dX9_pay_46 rfl rfl ?_
        refine gf_X9_10 C dX9_pay_47 ?_
        refine v_iload_n C dX9_pay_50 rfl rfl ?_
        refine v_aload_n C dX9_pay_51 rfl rfl ?_
        refine gf_X9_43 C dX9_pay_52 ?_
        refine cVv C 8 0 0 (av := [.ref (ad G 5 0 0), .int a1, .ref (ad G 7 0 0)]) si_X8_ofPayment lk_X9_142 (ok8) rfl rfl rfl rfl (st := []) rfl (Nat.le_of_ble_eq_true rfl) dX9_pay_55 h (fun _ hc => s_X8_ofPayment (d := d) 0 a1 (by decide) hc) (fun σ8 h => ?_)
        refine v_aload_n C dX9_pay_58 rfl rfl ?_
        refine gf_X9_50 C dX9_pay_59 ?_
        refine v_aload_n C dX9_pay_62 rfl rfl ?_
        refine gf_X9_10 C dX9_pay_63 ?_
        refine cVi C 8 0 0 (av := [.ref (ad G 5 0 0)]) si_X8_fits lk_X9_125 (ok8) rfl rfl rfl rfl (st := []) rfl (Nat.le_of_ble_eq_true rfl) dX9_pay_66 h (fun _ _ hc => s_X8_fits (d := (d + 2)) 0 (by decide) hc) (fun r9 σ10 h => ?_)
        refine v_if_ne C dX9_pay_69 (tgt := 75) (by decide) h (fun h => ?_) (fun h => ?_)
        · refine v_aload_n C dX9_pay_75 rfl rfl ?_
          refine gf_X9_29 C dX9_pay_76 ?_
          refine v_aload_n C dX9_pay_79 rfl rfl ?_
          refine gf_X9_10 C dX9_pay_80 ?_
          refine cVv C 2 0 0 (av := [.ref (ad G 5 0 0)]) si_X2_record lk_X9_58 (ok2) rfl rfl rfl rfl (st := []) rfl (Nat.le_of_ble_eq_true rfl) dX9_pay_83 h (fun _ hc => s_X2_record (d := d) 0 (by decide) hc) (fun σ12 h => ?_)
          refine v_aload_n C dX9_pay_86 rfl rfl ?_
          refine gf_X9_50 C dX9_pay_87 ?_
          refine v_aload_n C dX9_pay_90 rfl rfl ?_
          refine gf_X9_10 C dX9_pay_91 ?_
          refine cVv C 8 0 0 (av := [.ref (ad G 5 0 0)]) si_X8_carryOut lk_X9_129 (ok8) rfl rfl rfl rfl (st := []) rfl (Nat.le_of_ble_eq_true rfl) dX9_pay_94 h (fun _ hc => s_X8_carryOut (d := d) 0 (by decide) hc) (fun σ14 h => ?_)
          refine v_aload_n C dX9_pay_97 rfl rfl ?_
          refine gf_X9_10 C dX9_pay_98 ?_
          refine v_iload_n C dX9_pay_101 rfl rfl ?_
          refine v_aload_n C dX9_pay_102 rfl rfl ?_
          refine gf_X9_43 C dX9_pay_103 ?_
          refine cVv C 5 0 0 (av := [.int a1, .ref (ad G 7 0 0)]) si_X5_takePayment lk_X9_146 (ok5 (by decide)) rfl rfl rfl rfl (st := []) rfl (Nat.le_of_ble_eq_true rfl) dX9_pay_106 h (fun _ hc => s_X5_takePayment (d := d) 0 a1 (by decide) hc) (fun σ16 h => ?_)
          refine v_aload_n C dX9_pay_109 rfl rfl ?_
          refine gf_X9_10 C dX9_pay_110 ?_
          refine gf_X9_90 C (by decide) dX9_pay_113 ?_
          refine v_iload_n C dX9_pay_116 rfl rfl ?_
          refine lq_12 C (by decide) dX9_pay_117 h (fun h hq17 => ?_)
          refine gf_X9_150 C (by decide) hq17 dX9_pay_118 ?_
          exact v_iret C dX9_pay_121 h
        · refine v_bipush C dX9_pay_72 kb_m3 ?_
          exact v_iret C dX9_pay_74 h
      · refine v_bipush C dX9_pay_39 kb_m4 ?_
        exact v_iret C dX9_pay_41 h
    · refine v_bipush C dX9_pay_20 kb_m2 ?_
      exact v_iret C dX9_pay_22 h
  · refine v_iconst C dX9_pay_11 ki_m1 ?_
    exact v_iret C dX9_pay_12 h

def dc_X9_cure (a1 : Int32) (a2 : Int32) (σ : Sto) : Option (Int32 × Sto) :=
  (bd (dc_X5_hasLoan 0 a1 σ) fun r1 σ2 => (if r1 = 0 then some ((-1 : Int32), σ2) else (bd (dc_X9_isLoanMonths a2 σ2) fun r3 σ4 => (if r3 = 0 then some ((-2 : Int32), σ4) else (if inb a1 10 then (if (σ4.1 64 0 a1.toNatClampNeg) = (1 : Int32) then (if (σ4.1 72 0 a1.toNatClampNeg) = 0 then some ((-4 : Int32), σ4) else (if (σ4.1 70 0 a1.toNatClampNeg) ≤ 0 then (bv (dc_X2_record 0 σ4) fun σ7 => (lt (up (up σ7 71 0 a1.toNatClampNeg (0 : Int32)) 72 0 a1.toNatClampNeg (0 : Int32)) fun σ8 => (bd (dc_X9_dividedUp (σ8.1 68 0 a1.toNatClampNeg) a2 σ8) fun r9 σ10 => some ((up σ10 69 0 a1.toNatClampNeg r9).1 69 0 a1.toNatClampNeg, up σ10 69 0 a1.toNatClampNeg r9)))) else some ((-4 : Int32), σ4))) else some ((-4 : Int32), σ4)) else none)))))
set_option maxRecDepth 20000 in
set_option maxHeartbeats 4000000 in
theorem s_X9_cure {G : Gm} {d : Nat} (a1 : Int32) (a2 : Int32) {σ τ : Sto} {r : Int32} (h : dc_X9_cure a1 a2 σ = some (r, τ)) : Cl G (d + 3) m_X9_cure [.ref (ad G 9 0 0), .int a1, .int a2] σ (some (.int r)) τ := by
  unfold dc_X9_cure at h
  refine Cl.mk (cc := cX9_cure) (own := RX9) (nL := 4) (ret := (some .int)) rfl rfl rfl rfl (by decide +kernel) (catA rfl) (Nat.le_of_ble_eq_true rfl) (fun X C => ?_)
  show V X G 0 0 (QE X G (some (.int r)) τ) σ 0 [some (.ref (ad G 9 0 0)), some (.int a1), some (.int a2), none] []
  refine v_aload_n C dX9_cure_0 rfl rfl ?_
  refine gf_X9_10 C dX9_cure_1 ?_
  refine v_iload_n C dX9_cure_4 rfl rfl ?_
  refine cVi C 5 0 0 (av := [.int a1]) si_X5_hasLoan lk_X9_111 (ok5 (by decide)) rfl rfl rfl rfl (st := []) rfl (Nat.le_of_ble_eq_true rfl) dX9_cure_5 h (fun _ _ hc => s_X5_hasLoan (d := (d + 2)) 0 a1 (by decide) hc) (fun r1 σ2 h => ?_)
  refine v_if_ne C dX9_cure_8 (tgt := 13) (by decide) h (fun h => ?_) (fun h => ?_)
  · refine v_iload_n C dX9_cure_13 rfl rfl ?_
    refine cSi C (av := [.int a2]) si_X9_isLoanMonths lk_X9_84 rfl rfl (st := []) rfl (Nat.le_of_ble_eq_true rfl) dX9_cure_14 h (fun _ _ hc => s_X9_isLoanMonths (d := (d + 2)) a2  hc) (fun r3 σ4 h => ?_)
    refine v_if_ne C dX9_cure_17 (tgt := 23) (by decide) h (fun h => ?_) (fun h => ?_)
    · refine v_aload_n C dX9_cure_23 rfl rfl ?_
      refine gf_X9_10 C dX9_cure_24 ?_
      refine gf_X9_90 C (by decide) dX9_cure_27 ?_
      refine v_iload_n C dX9_cure_30 rfl rfl ?_
      refine lq_12 C (by decide) dX9_cure_31 h (fun h hq5 => ?_)
      refine v_astore_n C dX9_cure_32 rfl (Nat.le_of_ble_eq_true rfl) (lc1 := [some (.ref (ad G 9 0 0)), some (.int a1), some (.int a2), some (.ref (ad G 4 0 a1.toNatClampNeg))]) rfl ?_
      refine v_aload_n C dX9_cure_33 rfl rfl ?_
      refine gf_X9_114 C (by decide) hq5 dX9_cure_34 ?_
      refine v_iconst C dX9_cure_37 ki_1 ?_
      refine v_icmp_ne C dX9_cure_38 (tgt := 55) (by decide) h (fun h => ?_) (fun h => ?_)
      · refine v_bipush C dX9_cure_55 kb_m4 ?_
        exact v_iret C dX9_cure_57 h
      · refine v_aload_n C dX9_cure_41 rfl rfl ?_
        refine gf_X9_153 C (by decide) hq5 dX9_cure_42 ?_
        refine v_if_eq C dX9_cure_45 (tgt := 55) (by decide) h (fun h => ?_) (fun h => ?_)
        · refine v_bipush C dX9_cure_55 kb_m4 ?_
          exact v_iret C dX9_cure_57 h
        · refine v_aload_n C dX9_cure_48 rfl rfl ?_
          refine gf_X9_156 C (by decide) hq5 dX9_cure_49 ?_
          refine v_if_le C dX9_cure_52 (tgt := 58) (by decide) h (fun h => ?_) (fun h => ?_)
          · refine v_aload_n C dX9_cure_58 rfl rfl ?_
            refine gf_X9_29 C dX9_cure_59 ?_
            refine v_aload_n C dX9_cure_62 rfl rfl ?_
            refine gf_X9_10 C dX9_cure_63 ?_
            refine cVv C 2 0 0 (av := [.ref (ad G 5 0 0)]) si_X2_record lk_X9_58 (ok2) rfl rfl rfl rfl (st := []) rfl (Nat.le_of_ble_eq_true rfl) dX9_cure_66 h (fun _ hc => s_X2_record (d := d) 0 (by decide) hc) (fun σ7 h => ?_)
            refine v_aload_n C dX9_cure_69 rfl rfl ?_
            refine v_iconst C dX9_cure_70 ki_0 ?_
            refine pf_X9_159 C (by decide) hq5 dX9_cure_71 ?_
            refine v_aload_n C dX9_cure_74 rfl rfl ?_
            refine v_iconst C dX9_cure_75 ki_0 ?_
            refine pf_X9_153 C (by decide) hq5 dX9_cure_76 ?_
            refine v_lt h (fun σ8 h => ?_)
            refine v_aload_n C dX9_cure_79 rfl rfl ?_
            refine v_aload_n C dX9_cure_80 rfl rfl ?_
            refine gf_X9_150 C (by decide) hq5 dX9_cure_81 ?_
            refine v_iload_n C dX9_cure_84 rfl rfl ?_
            refine cSi C (av := [.int (σ8.1 68 0 a1.toNatClampNeg), .int a2]) si_X9_dividedUp lk_X9_162 rfl rfl (st := [.ref (ad G 4 0 a1.toNatClampNeg)]) rfl (Nat.le_of_ble_eq_true rfl) dX9_cure_85 h (fun _ _ hc => s_X9_dividedUp (d := (d + 2)) (σ8.1 68 0 a1.toNatClampNeg) a2  hc) (fun r9 σ10 h => ?_)
            refine pf_X9_165 C (by decide) hq5 dX9_cure_88 ?_
            refine v_aload_n C dX9_cure_91 rfl rfl ?_
            refine gf_X9_165 C (by decide) hq5 dX9_cure_92 ?_
            exact v_iret C dX9_cure_95 h
          · refine v_bipush C dX9_cure_55 kb_m4 ?_
            exact v_iret C dX9_cure_57 h
    · refine v_bipush C dX9_cure_20 kb_m2 ?_
      exact v_iret C dX9_cure_22 h
  · refine v_iconst C dX9_cure_11 ki_m1 ?_
    exact v_iret C dX9_cure_12 h

def dc_X9_isPrice (a0 : Int32) (σ : Sto) : Option (Int32 × Sto) :=
  (if a0 < 0 then some ((0 : Int32), σ) else (if (99999 : Int32) < a0 then some ((0 : Int32), σ) else some ((1 : Int32), σ)))
set_option maxRecDepth 20000 in
set_option maxHeartbeats 4000000 in
theorem s_X9_isPrice {G : Gm} {d : Nat} (a0 : Int32) {σ τ : Sto} {r : Int32} (h : dc_X9_isPrice a0 σ = some (r, τ)) : Cl G d m_X9_isPrice [.int a0] σ (some (.int r)) τ := by
  unfold dc_X9_isPrice at h
  refine Cl.mk (cc := cX9_isPrice) (own := RX9) (nL := 1) (ret := (some .boolean)) rfl rfl rfl rfl (by decide +kernel) (catA rfl) (Nat.le_of_ble_eq_true rfl) (fun X C => ?_)
  show V X G 0 0 (QE X G (some (.int r)) τ) σ 0 [some (.int a0)] []
  refine v_iload_n C dX9_isPrice_0 rfl rfl ?_
  refine v_if_lt C dX9_isPrice_1 (tgt := 14) (by decide) h (fun h => ?_) (fun h => ?_)
  · refine v_iconst C dX9_isPrice_14 ki_0 ?_
    exact v_zretc C dX9_isPrice_15 (nar01 (Or.inl rfl)) h
  · refine v_iload_n C dX9_isPrice_4 rfl rfl ?_
    refine v_ldc C dX9_isPrice_5 lk_X9_83 ?_
    refine v_icmp_gt C dX9_isPrice_7 (tgt := 14) (by decide) h (fun h => ?_) (fun h => ?_)
    · refine v_iconst C dX9_isPrice_14 ki_0 ?_
      exact v_zretc C dX9_isPrice_15 (nar01 (Or.inl rfl)) h
    · refine v_iconst C dX9_isPrice_10 ki_1 ?_
      refine v_goto C dX9_isPrice_11 (tgt := 15) (by decide) ?_
      exact v_zretc C dX9_isPrice_15 (nar01 (Or.inr rfl)) h

def dc_X9_sell (a1 : Int32) (a2 : Int32) (σ : Sto) : Option (Int32 × Sto) :=
  (bd (dc_X5_hasLoan 0 a1 σ) fun r1 σ2 => (if r1 = 0 then some ((-1 : Int32), σ2) else (bd (dc_X9_isPrice a2 σ2) fun r3 σ4 => (if r3 = 0 then some ((-2 : Int32), σ4) else (bd (dc_X5_runs 0 a1 σ4) fun r5 σ6 => (if r5 = 0 then some ((-4 : Int32), σ6) else (if inb a1 10 then (if (3 : Int32) ≤ (σ6.1 72 0 a1.toNatClampNeg) then (bd (dc_X8_ofSale 0 a1 a2 σ6) fun r8 σ9 => (bd (dc_X8_fits 0 σ9) fun r10 σ11 => (if r10 = 0 then some ((-3 : Int32), σ11) else (bv (dc_X2_record 0 σ11) fun σ13 => (bv (dc_X8_carryOut 0 σ13) fun σ15 => (if inb a1 10 then (bv (dc_X4_end 0 a1.toNatClampNeg (3 : Int32) (up σ15 88 0 0 r8)) fun σ18 => (bd (dc_X5_writeOff 0 a1 σ18) fun r19 σ20 => some (r19, σ20))) else none)))))) else some ((-4 : Int32), σ6)) else none)))))))
set_option maxRecDepth 20000 in
set_option maxHeartbeats 4000000 in
theorem s_X9_sell {G : Gm} {d : Nat} (a1 : Int32) (a2 : Int32) {σ τ : Sto} {r : Int32} (h : dc_X9_sell a1 a2 σ = some (r, τ)) : Cl G (d + 3) m_X9_sell [.ref (ad G 9 0 0), .int a1, .int a2] σ (some (.int r)) τ := by
  unfold dc_X9_sell at h
  refine Cl.mk (cc := cX9_sell) (own := RX9) (nL := 4) (ret := (some .int)) rfl rfl rfl rfl (by decide +kernel) (catA rfl) (Nat.le_of_ble_eq_true rfl) (fun X C => ?_)
  show V X G 0 0 (QE X G (some (.int r)) τ) σ 0 [some (.ref (ad G 9 0 0)), some (.int a1), some (.int a2), none] []
  refine v_aload_n C dX9_sell_0 rfl rfl ?_
  refine gf_X9_10 C dX9_sell_1 ?_
  refine v_iload_n C dX9_sell_4 rfl rfl ?_
  refine cVi C 5 0 0 (av := [.int a1]) si_X5_hasLoan lk_X9_111 (ok5 (by decide)) rfl rfl rfl rfl (st := []) rfl (Nat.le_of_ble_eq_true rfl) dX9_sell_5 h (fun _ _ hc => s_X5_hasLoan (d := (d + 2)) 0 a1 (by decide) hc) (fun r1 σ2 h => ?_)
  refine v_if_ne C dX9_sell_8 (tgt := 13) (by decide) h (fun h => ?_) (fun h => ?_)
  · refine v_iload_n C dX9_sell_13 rfl rfl ?_
    refine cSi C (av := [.int a2]) si_X9_isPrice lk_X9_168 rfl rfl (st := []) rfl (Nat.le_of_ble_eq_true rfl) dX9_sell_14 h (fun _ _ hc => s_X9_isPrice (d := (d + 2)) a2  hc) (fun r3 σ4 h => ?_)
    refine v_if_ne C dX9_sell_17 (tgt := 23) (by decide) h (fun h => ?_) (fun h => ?_)
    · refine v_aload_n C dX9_sell_23 rfl rfl ?_
      refine gf_X9_10 C dX9_sell_24 ?_
      refine v_iload_n C dX9_sell_27 rfl rfl ?_
      refine cVi C 5 0 0 (av := [.int a1]) si_X5_runs lk_X9_171 (ok5 (by decide)) rfl rfl rfl rfl (st := []) rfl (Nat.le_of_ble_eq_true rfl) dX9_sell_28 h (fun _ _ hc => s_X5_runs (d := (d + 1)) 0 a1 (by decide) hc) (fun r5 σ6 h => ?_)
      refine v_if_eq C dX9_sell_31 (tgt := 50) (by decide) h (fun h => ?_) (fun h => ?_)
      · refine v_bipush C dX9_sell_50 kb_m4 ?_
        exact v_iret C dX9_sell_52 h
      · refine v_aload_n C dX9_sell_34 rfl rfl ?_
        refine gf_X9_10 C dX9_sell_35 ?_
        refine gf_X9_90 C (by decide) dX9_sell_38 ?_
        refine v_iload_n C dX9_sell_41 rfl rfl ?_
        refine lq_12 C (by decide) dX9_sell_42 h (fun h hq7 => ?_)
        refine gf_X9_153 C (by decide) hq7 dX9_sell_43 ?_
        refine v_iconst C dX9_sell_46 ki_3 ?_
        refine v_icmp_ge C dX9_sell_47 (tgt := 53) (by decide) h (fun h => ?_) (fun h => ?_)
        · refine v_aload_n C dX9_sell_53 rfl rfl ?_
          refine gf_X9_50 C dX9_sell_54 ?_
          refine v_aload_n C dX9_sell_57 rfl rfl ?_
          refine gf_X9_10 C dX9_sell_58 ?_
          refine v_iload_n C dX9_sell_61 rfl rfl ?_
          refine v_iload_n C dX9_sell_62 rfl rfl ?_
          refine cVi C 8 0 0 (av := [.ref (ad G 5 0 0), .int a1, .int a2]) si_X8_ofSale lk_X9_174 (ok8) rfl rfl rfl rfl (st := []) rfl (Nat.le_of_ble_eq_true rfl) dX9_sell_63 h (fun _ _ hc => s_X8_ofSale (d := d) 0 a1 a2 (by decide) hc) (fun r8 σ9 h => ?_)
          refine v_istore_n C dX9_sell_66 rfl (Nat.le_of_ble_eq_true rfl) (lc1 := [some (.ref (ad G 9 0 0)), some (.int a1), some (.int a2), some (.int r8)]) rfl ?_
          refine v_aload_n C dX9_sell_67 rfl rfl ?_
          refine gf_X9_50 C dX9_sell_68 ?_
          refine v_aload_n C dX9_sell_71 rfl rfl ?_
          refine gf_X9_10 C dX9_sell_72 ?_
          refine cVi C 8 0 0 (av := [.ref (ad G 5 0 0)]) si_X8_fits lk_X9_125 (ok8) rfl rfl rfl rfl (st := []) rfl (Nat.le_of_ble_eq_true rfl) dX9_sell_75 h (fun _ _ hc => s_X8_fits (d := (d + 2)) 0 (by decide) hc) (fun r10 σ11 h => ?_)
          refine v_if_ne C dX9_sell_78 (tgt := 84) (by decide) h (fun h => ?_) (fun h => ?_)
          · refine v_aload_n C dX9_sell_84 rfl rfl ?_
            refine gf_X9_29 C dX9_sell_85 ?_
            refine v_aload_n C dX9_sell_88 rfl rfl ?_
            refine gf_X9_10 C dX9_sell_89 ?_
            refine cVv C 2 0 0 (av := [.ref (ad G 5 0 0)]) si_X2_record lk_X9_58 (ok2) rfl rfl rfl rfl (st := []) rfl (Nat.le_of_ble_eq_true rfl) dX9_sell_92 h (fun _ hc => s_X2_record (d := d) 0 (by decide) hc) (fun σ13 h => ?_)
            refine v_aload_n C dX9_sell_95 rfl rfl ?_
            refine gf_X9_50 C dX9_sell_96 ?_
            refine v_aload_n C dX9_sell_99 rfl rfl ?_
            refine gf_X9_10 C dX9_sell_100 ?_
            refine cVv C 8 0 0 (av := [.ref (ad G 5 0 0)]) si_X8_carryOut lk_X9_129 (ok8) rfl rfl rfl rfl (st := []) rfl (Nat.le_of_ble_eq_true rfl) dX9_sell_103 h (fun _ hc => s_X8_carryOut (d := d) 0 (by decide) hc) (fun σ15 h => ?_)
            refine v_aload_n C dX9_sell_106 rfl rfl ?_
            refine gf_X9_10 C dX9_sell_107 ?_
            refine v_iload_n C dX9_sell_110 rfl rfl ?_
            refine pf_X9_178 C (by decide) dX9_sell_111 ?_
            refine v_aload_n C dX9_sell_114 rfl rfl ?_
            refine gf_X9_10 C dX9_sell_115 ?_
            refine gf_X9_90 C (by decide) dX9_sell_118 ?_
            refine v_iload_n C dX9_sell_121 rfl rfl ?_
            refine lq_12 C (by decide) dX9_sell_122 h (fun h hq16 => ?_)
            refine v_iconst C dX9_sell_123 ki_3 ?_
            refine cVv C 4 0 a1.toNatClampNeg (av := [.int (3 : Int32)]) si_X4_end lk_X9_132 (ok4 (by decide) hq16) rfl rfl rfl rfl (st := []) rfl (Nat.le_of_ble_eq_true rfl) dX9_sell_124 h (fun _ hc => s_X4_end (d := (d + 2)) 0 a1.toNatClampNeg (3 : Int32) (by decide) hq16 hc) (fun σ18 h => ?_)
            refine v_aload_n C dX9_sell_127 rfl rfl ?_
            refine gf_X9_10 C dX9_sell_128 ?_
            refine v_iload_n C dX9_sell_131 rfl rfl ?_
            refine cVi C 5 0 0 (av := [.int a1]) si_X5_writeOff lk_X9_181 (ok5 (by decide)) rfl rfl rfl rfl (st := []) rfl (Nat.le_of_ble_eq_true rfl) dX9_sell_132 h (fun _ _ hc => s_X5_writeOff (d := (d + 1)) 0 a1 (by decide) hc) (fun r19 σ20 h => ?_)
            exact v_iret C dX9_sell_135 h
          · refine v_bipush C dX9_sell_81 kb_m3 ?_
            exact v_iret C dX9_sell_83 h
        · refine v_bipush C dX9_sell_50 kb_m4 ?_
          exact v_iret C dX9_sell_52 h
    · refine v_bipush C dX9_sell_20 kb_m2 ?_
      exact v_iret C dX9_sell_22 h
  · refine v_iconst C dX9_sell_11 ki_m1 ?_
    exact v_iret C dX9_sell_12 h

def dc_X9_switchServicer (a1 : Int32) (a2 : Int32) (σ : Sto) : Option (Int32 × Sto) :=
  (bd (dc_X5_hasLoan 0 a1 σ) fun r1 σ2 => (if r1 = 0 then some ((-1 : Int32), σ2) else (bd (dc_X9_isServicer a2 σ2) fun r3 σ4 => (if r3 = 0 then some ((-1 : Int32), σ4) else (bd (dc_X5_runs 0 a1 σ4) fun r5 σ6 => (if r5 = 0 then some ((-4 : Int32), σ6) else (if inb a1 10 then jn (fun (v8 : Int32) => (if a2 = v8 then some ((-5 : Int32), σ6) else (bv (dc_X2_record 0 σ6) fun σ11 => some ((up σ11 74 0 a1.toNatClampNeg a2).1 73 0 a1.toNatClampNeg, up σ11 74 0 a1.toNatClampNeg a2)))) (fun k9 => (if (σ6.1 74 0 a1.toNatClampNeg) = (-5 : Int32) then k9 (σ6.1 73 0 a1.toNatClampNeg) else k9 (σ6.1 74 0 a1.toNatClampNeg))) else none)))))))
set_option maxRecDepth 20000 in
set_option maxHeartbeats 4000000 in
theorem s_X9_switchServicer {G : Gm} {d : Nat} (a1 : Int32) (a2 : Int32) {σ τ : Sto} {r : Int32} (h : dc_X9_switchServicer a1 a2 σ = some (r, τ)) : Cl G (d + 3) m_X9_switchServicer [.ref (ad G 9 0 0), .int a1, .int a2] σ (some (.int r)) τ := by
  unfold dc_X9_switchServicer at h
  refine Cl.mk (cc := cX9_switchServicer) (own := RX9) (nL := 5) (ret := (some .int)) rfl rfl rfl rfl (by decide +kernel) (catA rfl) (Nat.le_of_ble_eq_true rfl) (fun X C => ?_)
  show V X G 0 0 (QE X G (some (.int r)) τ) σ 0 [some (.ref (ad G 9 0 0)), some (.int a1), some (.int a2), none, none] []
  refine v_aload_n C dX9_switchServicer_0 rfl rfl ?_
  refine gf_X9_10 C dX9_switchServicer_1 ?_
  refine v_iload_n C dX9_switchServicer_4 rfl rfl ?_
  refine cVi C 5 0 0 (av := [.int a1]) si_X5_hasLoan lk_X9_111 (ok5 (by decide)) rfl rfl rfl rfl (st := []) rfl (Nat.le_of_ble_eq_true rfl) dX9_switchServicer_5 h (fun _ _ hc => s_X5_hasLoan (d := (d + 2)) 0 a1 (by decide) hc) (fun r1 σ2 h => ?_)
  refine v_if_eq C dX9_switchServicer_8 (tgt := 18) (by decide) h (fun h => ?_) (fun h => ?_)
  · refine v_iconst C dX9_switchServicer_18 ki_m1 ?_
    exact v_iret C dX9_switchServicer_19 h
  · refine v_iload_n C dX9_switchServicer_11 rfl rfl ?_
    refine cSi C (av := [.int a2]) si_X9_isServicer lk_X9_184 rfl rfl (st := []) rfl (Nat.le_of_ble_eq_true rfl) dX9_switchServicer_12 h (fun _ _ hc => s_X9_isServicer (d := (d + 2)) a2  hc) (fun r3 σ4 h => ?_)
    refine v_if_ne C dX9_switchServicer_15 (tgt := 20) (by decide) h (fun h => ?_) (fun h => ?_)
    · refine v_aload_n C dX9_switchServicer_20 rfl rfl ?_
      refine gf_X9_10 C dX9_switchServicer_21 ?_
      refine v_iload_n C dX9_switchServicer_24 rfl rfl ?_
      refine cVi C 5 0 0 (av := [.int a1]) si_X5_runs lk_X9_171 (ok5 (by decide)) rfl rfl rfl rfl (st := []) rfl (Nat.le_of_ble_eq_true rfl) dX9_switchServicer_25 h (fun _ _ hc => s_X5_runs (d := (d + 1)) 0 a1 (by decide) hc) (fun r5 σ6 h => ?_)
      refine v_if_ne C dX9_switchServicer_28 (tgt := 34) (by decide) h (fun h => ?_) (fun h => ?_)
      · refine v_aload_n C dX9_switchServicer_34 rfl rfl ?_
        refine gf_X9_10 C dX9_switchServicer_35 ?_
        refine gf_X9_90 C (by decide) dX9_switchServicer_38 ?_
        refine v_iload_n C dX9_switchServicer_41 rfl rfl ?_
        refine lq_12 C (by decide) dX9_switchServicer_42 h (fun h hq7 => ?_)
        refine v_astore_n C dX9_switchServicer_43 rfl (Nat.le_of_ble_eq_true rfl) (lc1 := [some (.ref (ad G 9 0 0)), some (.int a1), some (.int a2), some (.ref (ad G 4 0 a1.toNatClampNeg)), none]) rfl ?_
        refine v_aload_n C dX9_switchServicer_44 rfl rfl ?_
        refine gf_X9_187 C (by decide) hq7 dX9_switchServicer_45 ?_
        refine v_bipush C dX9_switchServicer_48 kb_m5 ?_
        refine v_join (fun k => ∀ (v8 : Int32), k v8 = some (r, τ) → V X G 0 0 (QE X G (some (.int r)) τ) σ6 64 [some (.ref (ad G 9 0 0)), some (.int a1), some (.int a2), some (.ref (ad G 4 0 a1.toNatClampNeg)), none] [.int v8]) h (fun v8 h => ?_) (fun k9 hk9 h => ?_)
        · refine v_istore C dX9_switchServicer_64 (Nat.le_of_ble_eq_true rfl) (lc1 := [some (.ref (ad G 9 0 0)), some (.int a1), some (.int a2), some (.ref (ad G 4 0 a1.toNatClampNeg)), some (.int v8)]) rfl ?_
          refine v_iload_n C dX9_switchServicer_66 rfl rfl ?_
          refine v_iload C dX9_switchServicer_67 rfl ?_
          refine v_icmp_ne C dX9_switchServicer_69 (tgt := 75) (by decide) h (fun h => ?_) (fun h => ?_)
          · refine v_aload_n C dX9_switchServicer_75 rfl rfl ?_
            refine gf_X9_29 C dX9_switchServicer_76 ?_
            refine v_aload_n C dX9_switchServicer_79 rfl rfl ?_
            refine gf_X9_10 C dX9_switchServicer_80 ?_
            refine cVv C 2 0 0 (av := [.ref (ad G 5 0 0)]) si_X2_record lk_X9_58 (ok2) rfl rfl rfl rfl (st := []) rfl (Nat.le_of_ble_eq_true rfl) dX9_switchServicer_83 h (fun _ hc => s_X2_record (d := d) 0 (by decide) hc) (fun σ11 h => ?_)
            refine v_aload_n C dX9_switchServicer_86 rfl rfl ?_
            refine v_iload_n C dX9_switchServicer_87 rfl rfl ?_
            refine pf_X9_187 C (by decide) hq7 dX9_switchServicer_88 ?_
            refine v_aload_n C dX9_switchServicer_91 rfl rfl ?_
            refine gf_X9_190 C (by decide) hq7 dX9_switchServicer_92 ?_
            exact v_iret C dX9_switchServicer_95 h
          · refine v_bipush C dX9_switchServicer_72 kb_m5 ?_
            exact v_iret C dX9_switchServicer_74 h
        · refine v_icmp_ne C dX9_switchServicer_50 (tgt := 60) (by decide) h (fun h => ?_) (fun h => ?_)
          · refine v_aload_n C dX9_switchServicer_60 rfl rfl ?_
            refine gf_X9_187 C (by decide) hq7 dX9_switchServicer_61 ?_
            refine v_mask [true, true, true, true, false] (lc' := [some (.ref (ad G 9 0 0)), some (.int a1), some (.int a2), some (.ref (ad G 4 0 a1.toNatClampNeg)), none]) rfl ?_
            exact hk9 _ h
          · refine v_aload_n C dX9_switchServicer_53 rfl rfl ?_
            refine gf_X9_190 C (by decide) hq7 dX9_switchServicer_54 ?_
            refine v_goto C dX9_switchServicer_57 (tgt := 64) (by decide) ?_
            refine v_mask [true, true, true, true, false] (lc' := [some (.ref (ad G 9 0 0)), some (.int a1), some (.int a2), some (.ref (ad G 4 0 a1.toNatClampNeg)), none]) rfl ?_
            exact hk9 _ h
      · refine v_bipush C dX9_switchServicer_31 kb_m4 ?_
        exact v_iret C dX9_switchServicer_33 h
    · refine v_iconst C dX9_switchServicer_18 ki_m1 ?_
      exact v_iret C dX9_switchServicer_19 h

def dc_X9_sellNote (a1 : Int32) (a2 : Int32) (a3 : Int32) (σ : Sto) : Option (Int32 × Sto) :=
  (bd (dc_X5_hasNote 0 a1 σ) fun r1 σ2 => (if r1 = 0 then some ((-1 : Int32), σ2) else (bd (dc_X5_hasInvestor 0 a2 σ2) fun r3 σ4 => (if r3 = 0 then some ((-1 : Int32), σ4) else (if inb a1 60 then (bd (dc_X9_isPrice a3 σ4) fun r6 σ7 => (if r6 = 0 then some ((-2 : Int32), σ7) else (if (σ4.1 96 0 a1.toNatClampNeg) = a2 then some ((-2 : Int32), σ7) else (bd (dc_X5_runs 0 (σ7.1 97 0 a1.toNatClampNeg) σ7) fun r8 σ9 => (if r8 = 0 then some ((-4 : Int32), σ9) else (bd (dc_X5_cashOf 0 a2 σ9) fun r10 σ11 => (if a3 ≤ r10 then (bd (dc_X5_cashOf 0 (σ4.1 96 0 a1.toNatClampNeg) σ11) fun r12 σ13 => (if a3 ≤ ((2147483647 : Int32) - r12) then (bv (dc_X2_record 0 σ13) fun σ15 => (bv (dc_X5_give 0 a2 (-a3) σ15) fun σ17 => (bv (dc_X5_give 0 (σ4.1 96 0 a1.toNatClampNeg) a3 σ17) fun σ19 => some ((up σ19 96 0 a1.toNatClampNeg a2).1 99 0 a1.toNatClampNeg, up σ19 96 0 a1.toNatClampNeg a2)))) else some ((-3 : Int32), σ13))) else some ((-4 : Int32), σ11)))))))) else none)))))
set_option maxRecDepth 20000 in
set_option maxHeartbeats 4000000 in
theorem s_X9_sellNote {G : Gm} {d : Nat} (a1 : Int32) (a2 : Int32) (a3 : Int32) {σ τ : Sto} {r : Int32} (h : dc_X9_sellNote a1 a2 a3 σ = some (r, τ)) : Cl G (d + 3) m_X9_sellNote [.ref (ad G 9 0 0), .int a1, .int a2, .int a3] σ (some (.int r)) τ := by
  unfold dc_X9_sellNote at h
  refine Cl.mk (cc := cX9_sellNote) (own := RX9) (nL := 6) (ret := (some .int)) rfl rfl rfl rfl (by decide +kernel) (catA rfl) (Nat.le_of_ble_eq_true rfl) (fun X C => ?_)
  show V X G 0 0 (QE X G (some (.int r)) τ) σ 0 [some (.ref (ad G 9 0 0)), some (.int a1), some (.int a2), some (.int a3), none, none] []
  refine v_aload_n C dX9_sellNote_0 rfl rfl ?_
  refine gf_X9_10 C dX9_sellNote_1 ?_
  refine v_iload_n C dX9_sellNote_4 rfl rfl ?_
  refine cVi C 5 0 0 (av := [.int a1]) si_X5_hasNote lk_X9_193 (ok5 (by decide)) rfl rfl rfl rfl (st := []) rfl (Nat.le_of_ble_eq_true rfl) dX9_sellNote_5 h (fun _ _ hc => s_X5_hasNote (d := (d + 2)) 0 a1 (by decide) hc) (fun r1 σ2 h => ?_)
  refine v_if_eq C dX9_sellNote_8 (tgt := 22) (by decide) h (fun h => ?_) (fun h => ?_)
  · refine v_iconst C dX9_sellNote_22 ki_m1 ?_
    exact v_iret C dX9_sellNote_23 h
  · refine v_aload_n C dX9_sellNote_11 rfl rfl ?_
    refine gf_X9_10 C dX9_sellNote_12 ?_
    refine v_iload_n C dX9_sellNote_15 rfl rfl ?_
    refine cVi C 5 0 0 (av := [.int a2]) si_X5_hasInvestor lk_X9_72 (ok5 (by decide)) rfl rfl rfl rfl (st := []) rfl (Nat.le_of_ble_eq_true rfl) dX9_sellNote_16 h (fun _ _ hc => s_X5_hasInvestor (d := (d + 2)) 0 a2 (by decide) hc) (fun r3 σ4 h => ?_)
    refine v_if_ne C dX9_sellNote_19 (tgt := 24) (by decide) h (fun h => ?_) (fun h => ?_)
    · refine v_aload_n C dX9_sellNote_24 rfl rfl ?_
      refine gf_X9_10 C dX9_sellNote_25 ?_
      refine gf_X9_196 C (by decide) dX9_sellNote_28 ?_
      refine v_iload_n C dX9_sellNote_31 rfl rfl ?_
      refine lq_13 C (by decide) dX9_sellNote_32 h (fun h hq5 => ?_)
      refine v_astore C dX9_sellNote_33 (Nat.le_of_ble_eq_true rfl) (lc1 := [some (.ref (ad G 9 0 0)), some (.int a1), some (.int a2), some (.int a3), some (.ref (ad G 6 0 a1.toNatClampNeg)), none]) rfl ?_
      refine v_aload C dX9_sellNote_35 rfl ?_
      refine gf_X9_200 C (by decide) hq5 dX9_sellNote_37 ?_
      refine v_istore C dX9_sellNote_40 (Nat.le_of_ble_eq_true rfl) (lc1 := [some (.ref (ad G 9 0 0)), some (.int a1), some (.int a2), some (.int a3), some (.ref (ad G 6 0 a1.toNatClampNeg)), some (.int (σ4.1 96 0 a1.toNatClampNeg))]) rfl ?_
      refine v_iload_n C dX9_sellNote_42 rfl rfl ?_
      refine cSi C (av := [.int a3]) si_X9_isPrice lk_X9_168 rfl rfl (st := []) rfl (Nat.le_of_ble_eq_true rfl) dX9_sellNote_43 h (fun _ _ hc => s_X9_isPrice (d := (d + 2)) a3  hc) (fun r6 σ7 h => ?_)
      refine v_if_eq C dX9_sellNote_46 (tgt := 55) (by decide) h (fun h => ?_) (fun h => ?_)
      · refine v_bipush C dX9_sellNote_55 kb_m2 ?_
        exact v_iret C dX9_sellNote_57 h
      · refine v_iload C dX9_sellNote_49 rfl ?_
        refine v_iload_n C dX9_sellNote_51 rfl rfl ?_
        refine v_icmp_ne C dX9_sellNote_52 (tgt := 58) (by decide) h (fun h => ?_) (fun h => ?_)
        · refine v_aload_n C dX9_sellNote_58 rfl rfl ?_
          refine gf_X9_10 C dX9_sellNote_59 ?_
          refine v_aload C dX9_sellNote_62 rfl ?_
          refine gf_X9_205 C (by decide) hq5 dX9_sellNote_64 ?_
          refine cVi C 5 0 0 (av := [.int (σ7.1 97 0 a1.toNatClampNeg)]) si_X5_runs lk_X9_171 (ok5 (by decide)) rfl rfl rfl rfl (st := []) rfl (Nat.le_of_ble_eq_true rfl) dX9_sellNote_67 h (fun _ _ hc => s_X5_runs (d := (d + 1)) 0 (σ7.1 97 0 a1.toNatClampNeg) (by decide) hc) (fun r8 σ9 h => ?_)
          refine v_if_eq C dX9_sellNote_70 (tgt := 85) (by decide) h (fun h => ?_) (fun h => ?_)
          · refine v_bipush C dX9_sellNote_85 kb_m4 ?_
            exact v_iret C dX9_sellNote_87 h
          · refine v_aload_n C dX9_sellNote_73 rfl rfl ?_
            refine gf_X9_10 C dX9_sellNote_74 ?_
            refine v_iload_n C dX9_sellNote_77 rfl rfl ?_
            refine cVi C 5 0 0 (av := [.int a2]) si_X5_cashOf lk_X9_208 (ok5 (by decide)) rfl rfl rfl rfl (st := []) rfl (Nat.le_of_ble_eq_true rfl) dX9_sellNote_78 h (fun _ _ hc => s_X5_cashOf (d := (d + 1)) 0 a2 (by decide) hc) (fun r10 σ11 h => ?_)
            refine v_iload_n C dX9_sellNote_81 rfl rfl ?_
            refine v_icmp_ge C dX9_sellNote_82 (tgt := 88) (by decide) h (fun h => ?_) (fun h => ?_)
            · refine v_iload_n C dX9_sellNote_88 rfl rfl ?_
              refine v_ldc C dX9_sellNote_89 lk_X9_76 ?_
              refine v_aload_n C dX9_sellNote_91 rfl rfl ?_
              refine gf_X9_10 C dX9_sellNote_92 ?_
              refine v_iload C dX9_sellNote_95 rfl ?_
              refine cVi C 5 0 0 (av := [.int (σ4.1 96 0 a1.toNatClampNeg)]) si_X5_cashOf lk_X9_208 (ok5 (by decide)) rfl rfl rfl rfl (st := [.int (2147483647 : Int32), .int a3]) rfl (Nat.le_of_ble_eq_true rfl) dX9_sellNote_97 h (fun _ _ hc => s_X5_cashOf (d := (d + 1)) 0 (σ4.1 96 0 a1.toNatClampNeg) (by decide) hc) (fun r12 σ13 h => ?_)
              refine v_isub C dX9_sellNote_100 ?_
              refine v_icmp_le C dX9_sellNote_101 (tgt := 107) (by decide) h (fun h => ?_) (fun h => ?_)
              · refine v_aload_n C dX9_sellNote_107 rfl rfl ?_
                refine gf_X9_29 C dX9_sellNote_108 ?_
                refine v_aload_n C dX9_sellNote_111 rfl rfl ?_
                refine gf_X9_10 C dX9_sellNote_112 ?_
                refine cVv C 2 0 0 (av := [.ref (ad G 5 0 0)]) si_X2_record lk_X9_58 (ok2) rfl rfl rfl rfl (st := []) rfl (Nat.le_of_ble_eq_true rfl) dX9_sellNote_115 h (fun _ hc => s_X2_record (d := d) 0 (by decide) hc) (fun σ15 h => ?_)
                refine v_aload_n C dX9_sellNote_118 rfl rfl ?_
                refine gf_X9_10 C dX9_sellNote_119 ?_
                refine v_iload_n C dX9_sellNote_122 rfl rfl ?_
                refine v_iload_n C dX9_sellNote_123 rfl rfl ?_
                refine v_ineg C dX9_sellNote_124 ?_
                refine cVv C 5 0 0 (av := [.int a2, .int (-a3)]) si_X5_give lk_X9_211 (ok5 (by decide)) rfl rfl rfl rfl (st := []) rfl (Nat.le_of_ble_eq_true rfl) dX9_sellNote_125 h (fun _ hc => s_X5_give (d := (d + 1)) 0 a2 (-a3) (by decide) hc) (fun σ17 h => ?_)
                refine v_aload_n C dX9_sellNote_128 rfl rfl ?_
                refine gf_X9_10 C dX9_sellNote_129 ?_
                refine v_iload C dX9_sellNote_132 rfl ?_
                refine v_iload_n C dX9_sellNote_134 rfl rfl ?_
                refine cVv C 5 0 0 (av := [.int (σ4.1 96 0 a1.toNatClampNeg), .int a3]) si_X5_give lk_X9_211 (ok5 (by decide)) rfl rfl rfl rfl (st := []) rfl (Nat.le_of_ble_eq_true rfl) dX9_sellNote_135 h (fun _ hc => s_X5_give (d := (d + 1)) 0 (σ4.1 96 0 a1.toNatClampNeg) a3 (by decide) hc) (fun σ19 h => ?_)
                refine v_aload C dX9_sellNote_138 rfl ?_
                refine v_iload_n C dX9_sellNote_140 rfl rfl ?_
                refine pf_X9_200 C (by decide) hq5 dX9_sellNote_141 ?_
                refine v_aload C dX9_sellNote_144 rfl ?_
                refine gf_X9_215 C (by decide) hq5 dX9_sellNote_146 ?_
                exact v_iret C dX9_sellNote_149 h
              · refine v_bipush C dX9_sellNote_104 kb_m3 ?_
                exact v_iret C dX9_sellNote_106 h
            · refine v_bipush C dX9_sellNote_85 kb_m4 ?_
              exact v_iret C dX9_sellNote_87 h
        · refine v_bipush C dX9_sellNote_55 kb_m2 ?_
          exact v_iret C dX9_sellNote_57 h
    · refine v_iconst C dX9_sellNote_22 ki_m1 ?_
      exact v_iret C dX9_sellNote_23 h
