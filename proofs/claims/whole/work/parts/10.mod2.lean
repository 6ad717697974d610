/-! by program (wip/whole/walk.py): X10_giveUp X10_weigh X10_share X10_payInterest X10_payPrincipal X10_feeFor X10_canPay X10_splitBy X10_pay X10_cure X10_sell -/
def dc_X10_giveUp (a1 : Int32) (σ : Sto) : Option (Int32 × Sto) :=
  (bv (dc_X10_aside  σ) fun σ2 => (bd (dc_X10_isLoan a1 σ2) fun r3 σ4 => (if r3 = 0 then some ((-1 : Int32), σ4) else (bd (dc_X10_of a1 (3 : Int32) σ4) fun r5 σ6 => (if r5 = 0 then (bd (dc_X10_principals a1 (2 : Int32) σ6) fun r7 σ8 => wh1 (fun (rec9 : Int32 → Sto → Option (Int32 × Sto)) (x11 : Int32) (σ10 : Sto) => (if inb (3 : Int32) 564 then (if (σ10.1 304 0 (3 : Int32).toNatClampNeg) ≤ x11 then (bv (dc_X10_ends a1 (4 : Int32) σ10) fun σ13 => (bd (dc_X10_acted r7 σ13) fun r14 σ15 => some (r14, σ15))) else (bd (dc_X10_ofNote x11 (1 : Int32) σ10) fun r16 σ17 => (if r16 = a1 then (bd (dc_X10_ofNote x11 (0 : Int32) σ17) fun r18 σ19 => (bd (dc_X10_ofNote x11 (3 : Int32) σ19) fun r20 σ21 => (bv (dc_X10_payOut r18 r20 σ21) fun σ23 => (bd (dc_X10_ofNote x11 (3 : Int32) σ23) fun r24 σ25 => (bv (dc_X10_more x11 (3 : Int32) (-r24) σ25) fun σ27 => rec9 (x11 + 1) σ27))))) else rec9 (x11 + 1) σ17))) else none)) FU (0 : Int32) σ8) else some ((-4 : Int32), σ6))))))
set_option maxRecDepth 20000 in
set_option maxHeartbeats 4000000 in
theorem s_X10_giveUp {G : Gm} {d : Nat} (a1 : Int32) {σ τ : Sto} {r : Int32} (h : dc_X10_giveUp a1 σ = some (r, τ)) : Cl G (d + 2) m_X10_giveUp [.ref (ad G 10 0 0), .int a1] σ (some (.int r)) τ := by
  unfold dc_X10_giveUp at h
  refine Cl.mk (cc := cX10_giveUp) (own := RX10) (nL := 4) (ret := (some .int)) rfl rfl rfl rfl (by decide +kernel) (catA rfl) (Nat.le_of_ble_eq_true rfl) (fun X C => ?_)
  show V X G 0 0 (QE X G (some (.int r)) τ) σ 0 [some (.ref (ad G 10 0 0)), some (.int a1), none, none] []
  refine v_aload_n C dX10_giveUp_0 rfl rfl ?_
  refine cVv C 10 0 0 (av := []) si_X10_aside lk_X10_58 (ok10) rfl rfl rfl rfl (st := []) rfl (Nat.le_of_ble_eq_true rfl) dX10_giveUp_1 h (fun _ hc => s_X10_aside (d := (d + 1))   hc) (fun σ2 h => ?_)
  refine v_aload_n C dX10_giveUp_4 rfl rfl ?_
  refine v_iload_n C dX10_giveUp_5 rfl rfl ?_
  refine cVi C 10 0 0 (av := [.int a1]) si_X10_isLoan lk_X10_84 (ok10) rfl rfl rfl rfl (st := []) rfl (Nat.le_of_ble_eq_true rfl) dX10_giveUp_6 h (fun _ _ hc => s_X10_isLoan (d := d) a1  hc) (fun r3 σ4 h => ?_)
  refine v_if_ne C dX10_giveUp_9 (tgt := 14) (by decide) h (fun h => ?_) (fun h => ?_)
  · refine v_aload_n C dX10_giveUp_14 rfl rfl ?_
    refine v_iload_n C dX10_giveUp_15 rfl rfl ?_
    refine v_iconst C dX10_giveUp_16 ki_3 ?_
    refine cVi C 10 0 0 (av := [.int a1, .int (3 : Int32)]) si_X10_of lk_X10_42 (ok10) rfl rfl rfl rfl (st := []) rfl (Nat.le_of_ble_eq_true rfl) dX10_giveUp_17 h (fun _ _ hc => s_X10_of (d := (d + 1)) a1 (3 : Int32)  hc) (fun r5 σ6 h => ?_)
    refine v_if_eq C dX10_giveUp_20 (tgt := 26) (by decide) h (fun h => ?_) (fun h => ?_)
    · refine v_aload_n C dX10_giveUp_26 rfl rfl ?_
      refine v_iload_n C dX10_giveUp_27 rfl rfl ?_
      refine v_iconst C dX10_giveUp_28 ki_2 ?_
      refine cVi C 10 0 0 (av := [.int a1, .int (2 : Int32)]) si_X10_principals lk_X10_81 (ok10) rfl rfl rfl rfl (st := []) rfl (Nat.le_of_ble_eq_true rfl) dX10_giveUp_29 h (fun _ _ hc => s_X10_principals (d := d) a1 (2 : Int32)  hc) (fun r7 σ8 h => ?_)
      refine v_istore_n C dX10_giveUp_32 rfl (Nat.le_of_ble_eq_true rfl) (lc1 := [some (.ref (ad G 10 0 0)), some (.int a1), some (.int r7), none]) rfl ?_
      refine v_iconst C dX10_giveUp_33 ki_0 ?_
      refine v_istore_n C dX10_giveUp_34 rfl (Nat.le_of_ble_eq_true rfl) (lc1 := [some (.ref (ad G 10 0 0)), some (.int a1), some (.int r7), some (.int (0 : Int32))]) rfl ?_
      refine v_loop1 (fun x11 σ10 => V X G 0 0 (QE X G (some (.int r)) τ) σ10 35 [some (.ref (ad G 10 0 0)), some (.int a1), some (.int r7), some (.int x11)] []) (fun rec9 hrec9 x11 σ10 h => ?_) h
      refine v_iload_n C dX10_giveUp_35 rfl rfl ?_
      refine v_aload_n C dX10_giveUp_36 rfl rfl ?_
      refine gf_X10_13 C dX10_giveUp_37 ?_
      refine v_iconst C dX10_giveUp_40 ki_3 ?_
      refine ld_19 C dX10_giveUp_41 h (fun h => ?_)
      refine v_icmp_ge C dX10_giveUp_42 (tgt := 90) (by decide) h (fun h => ?_) (fun h => ?_)
      · refine v_aload_n C dX10_giveUp_90 rfl rfl ?_
        refine v_iload_n C dX10_giveUp_91 rfl rfl ?_
        refine v_iconst C dX10_giveUp_92 ki_4 ?_
        refine cVv C 10 0 0 (av := [.int a1, .int (4 : Int32)]) si_X10_ends lk_X10_100 (ok10) rfl rfl rfl rfl (st := []) rfl (Nat.le_of_ble_eq_true rfl) dX10_giveUp_93 h (fun _ hc => s_X10_ends (d := d) a1 (4 : Int32)  hc) (fun σ13 h => ?_)
        refine v_aload_n C dX10_giveUp_96 rfl rfl ?_
        refine v_iload_n C dX10_giveUp_97 rfl rfl ?_
        refine cVi C 10 0 0 (av := [.int r7]) si_X10_acted lk_X10_61 (ok10) rfl rfl rfl rfl (st := []) rfl (Nat.le_of_ble_eq_true rfl) dX10_giveUp_98 h (fun _ _ hc => s_X10_acted (d := d) r7  hc) (fun r14 σ15 h => ?_)
        exact v_iret C dX10_giveUp_101 h
      · refine v_aload_n C dX10_giveUp_45 rfl rfl ?_
        refine v_iload_n C dX10_giveUp_46 rfl rfl ?_
        refine v_iconst C dX10_giveUp_47 ki_1 ?_
        refine cVi C 10 0 0 (av := [.int x11, .int (1 : Int32)]) si_X10_ofNote lk_X10_78 (ok10) rfl rfl rfl rfl (st := []) rfl (Nat.le_of_ble_eq_true rfl) dX10_giveUp_48 h (fun _ _ hc => s_X10_ofNote (d := (d + 1)) x11 (1 : Int32)  hc) (fun r16 σ17 h => ?_)
        refine v_iload_n C dX10_giveUp_51 rfl rfl ?_
        refine v_icmp_ne C dX10_giveUp_52 (tgt := 84) (by decide) h (fun h => ?_) (fun h => ?_)
        · refine v_iinc C dX10_giveUp_84 rfl (kc_1 _) (lc1 := [some (.ref (ad G 10 0 0)), some (.int a1), some (.int r7), some (.int (x11 + 1))]) rfl ?_
          refine v_goto C dX10_giveUp_87 (tgt := 35) (by decide) ?_
          refine v_mask [true, true, true, true] (lc' := [some (.ref (ad G 10 0 0)), some (.int a1), some (.int r7), some (.int (x11 + 1))]) rfl ?_
          exact hrec9 _ _ h
        · refine v_aload_n C dX10_giveUp_55 rfl rfl ?_
          refine v_aload_n C dX10_giveUp_56 rfl rfl ?_
          refine v_iload_n C dX10_giveUp_57 rfl rfl ?_
          refine v_iconst C dX10_giveUp_58 ki_0 ?_
          refine cVi C 10 0 0 (av := [.int x11, .int (0 : Int32)]) si_X10_ofNote lk_X10_78 (ok10) rfl rfl rfl rfl (st := [.ref (ad G 10 0 0)]) rfl (Nat.le_of_ble_eq_true rfl) dX10_giveUp_59 h (fun _ _ hc => s_X10_ofNote (d := (d + 1)) x11 (0 : Int32)  hc) (fun r18 σ19 h => ?_)
          refine v_aload_n C dX10_giveUp_62 rfl rfl ?_
          refine v_iload_n C dX10_giveUp_63 rfl rfl ?_
          refine v_iconst C dX10_giveUp_64 ki_3 ?_
          refine cVi C 10 0 0 (av := [.int x11, .int (3 : Int32)]) si_X10_ofNote lk_X10_78 (ok10) rfl rfl rfl rfl (st := [.int r18, .ref (ad G 10 0 0)]) rfl (Nat.le_of_ble_eq_true rfl) dX10_giveUp_65 h (fun _ _ hc => s_X10_ofNote (d := (d + 1)) x11 (3 : Int32)  hc) (fun r20 σ21 h => ?_)
          refine cVv C 10 0 0 (av := [.int r18, .int r20]) si_X10_payOut lk_X10_69 (ok10) rfl rfl rfl rfl (st := []) rfl (Nat.le_of_ble_eq_true rfl) dX10_giveUp_68 h (fun _ hc => s_X10_payOut (d := (d + 1)) r18 r20  hc) (fun σ23 h => ?_)
          refine v_aload_n C dX10_giveUp_71 rfl rfl ?_
          refine v_iload_n C dX10_giveUp_72 rfl rfl ?_
          refine v_iconst C dX10_giveUp_73 ki_3 ?_
          refine v_aload_n C dX10_giveUp_74 rfl rfl ?_
          refine v_iload_n C dX10_giveUp_75 rfl rfl ?_
          refine v_iconst C dX10_giveUp_76 ki_3 ?_
          refine cVi C 10 0 0 (av := [.int x11, .int (3 : Int32)]) si_X10_ofNote lk_X10_78 (ok10) rfl rfl rfl rfl (st := [.int (3 : Int32), .int x11, .ref (ad G 10 0 0)]) rfl (Nat.le_of_ble_eq_true rfl) dX10_giveUp_77 h (fun _ _ hc => s_X10_ofNote (d := (d + 1)) x11 (3 : Int32)  hc) (fun r24 σ25 h => ?_)
          refine v_ineg C dX10_giveUp_80 ?_
          refine cVv C 10 0 0 (av := [.int x11, .int (3 : Int32), .int (-r24)]) si_X10_more lk_X10_97 (ok10) rfl rfl rfl rfl (st := []) rfl (Nat.le_of_ble_eq_true rfl) dX10_giveUp_81 h (fun _ hc => s_X10_more (d := (d + 1)) x11 (3 : Int32) (-r24)  hc) (fun σ27 h => ?_)
          refine v_iinc C dX10_giveUp_84 rfl (kc_1 _) (lc1 := [some (.ref (ad G 10 0 0)), some (.int a1), some (.int r7), some (.int (x11 + 1))]) rfl ?_
          refine v_goto C dX10_giveUp_87 (tgt := 35) (by decide) ?_
          refine v_mask [true, true, true, true] (lc' := [some (.ref (ad G 10 0 0)), some (.int a1), some (.int r7), some (.int (x11 + 1))]) rfl ?_
          exact hrec9 _ _ h
    · refine v_bipush C dX10_giveUp_23 kb_m4 ?_
      exact v_iret C dX10_giveUp_25 h
  · refine v_iconst C dX10_giveUp_12 ki_m1 ?_
    exact v_iret C dX10_giveUp_13 h

def dc_X10_weigh (a1 : Int32) (a2 : Int32) (σ : Sto) : Option (Int32 × Sto) :=
  wh2 (fun (rec1 : Int32 → Int32 → Sto → Option (Int32 × Sto)) (x3 : Int32) (x4 : Int32) (σ2 : Sto) => (if inb (3 : Int32) 564 then (if (σ2.1 304 0 (3 : Int32).toNatClampNeg) ≤ x4 then some (x3, σ2) else (bd (dc_X10_ofNote x4 (1 : Int32) σ2) fun r5 σ6 => jn (fun (v7 : Int32) (σ8 : Sto) => (if inb x4 60 then (if inb x4 60 then rec1 (x3 + ((up σ8 384 0 x4.toNatClampNeg v7).1 384 0 x4.toNatClampNeg)) (x4 + 1) (up σ8 384 0 x4.toNatClampNeg v7) else none) else none)) (fun k9 => (if r5 = a1 then (if a2 = (2 : Int32) then (bd (dc_X10_ofNote x4 (3 : Int32) σ6) fun r10 σ11 => k9 r10 σ11) else (bd (dc_X10_ofNote x4 (2 : Int32) σ6) fun r12 σ13 => (if r12 = a2 then (bd (dc_X10_ofNote x4 (3 : Int32) σ13) fun r14 σ15 => k9 r14 σ15) else k9 (0 : Int32) σ13))) else k9 (0 : Int32) σ6)))) else none)) FU (0 : Int32) (0 : Int32) σ
set_option maxRecDepth 20000 in
set_option maxHeartbeats 4000000 in
theorem s_X10_weigh {G : Gm} {d : Nat} (a1 : Int32) (a2 : Int32) {σ τ : Sto} {r : Int32} (h : dc_X10_weigh a1 a2 σ = some (r, τ)) : Cl G (d + 1) m_X10_weigh [.ref (ad G 10 0 0), .int a1, .int a2] σ (some (.int r)) τ := by
  unfold dc_X10_weigh at h
  refine Cl.mk (cc := cX10_weigh) (own := RX10) (nL := 5) (ret := (some .int)) rfl rfl rfl rfl (by decide +kernel) (catA rfl) (Nat.le_of_ble_eq_true rfl) (fun X C => ?_)
  show V X G 0 0 (QE X G (some (.int r)) τ) σ 0 [some (.ref (ad G 10 0 0)), some (.int a1), some (.int a2), none, none] []
  refine v_iconst C dX10_weigh_0 ki_0 ?_
  refine v_istore_n C dX10_weigh_1 rfl (Nat.le_of_ble_eq_true rfl) (lc1 := [some (.ref (ad G 10 0 0)), some (.int a1), some (.int a2), some (.int (0 : Int32)), none]) rfl ?_
  refine v_iconst C dX10_weigh_2 ki_0 ?_
  refine v_istore C dX10_weigh_3 (Nat.le_of_ble_eq_true rfl) (lc1 := [some (.ref (ad G 10 0 0)), some (.int a1), some (.int a2), some (.int (0 : Int32)), some (.int (0 : Int32))]) rfl ?_
  refine v_loop2 (fun x3 x4 σ2 => V X G 0 0 (QE X G (some (.int r)) τ) σ2 5 [some (.ref (ad G 10 0 0)), some (.int a1), some (.int a2), some (.int x3), some (.int x4)] []) (fun rec1 hrec1 x3 x4 σ2 h => ?_) h
  refine v_iload C dX10_weigh_5 rfl ?_
  refine v_aload_n C dX10_weigh_7 rfl rfl ?_
  refine gf_X10_13 C dX10_weigh_8 ?_
  refine v_iconst C dX10_weigh_11 ki_3 ?_
  refine ld_19 C dX10_weigh_12 h (fun h => ?_)
  refine v_icmp_ge C dX10_weigh_13 (tgt := 77) (by decide) h (fun h => ?_) (fun h => ?_)
  · refine v_iload_n C dX10_weigh_77 rfl rfl ?_
    exact v_iret C dX10_weigh_78 h
  · refine v_aload_n C dX10_weigh_16 rfl rfl ?_
    refine gf_X10_29 C dX10_weigh_17 ?_
    refine v_iload C dX10_weigh_20 rfl ?_
    refine v_aload_n C dX10_weigh_22 rfl rfl ?_
    refine v_iload C dX10_weigh_23 rfl ?_
    refine v_iconst C dX10_weigh_25 ki_1 ?_
    refine cVi C 10 0 0 (av := [.int x4, .int (1 : Int32)]) si_X10_ofNote lk_X10_78 (ok10) rfl rfl rfl rfl (st := [.int x4, .ref (ad G 24 0 0)]) rfl (Nat.le_of_ble_eq_true rfl) dX10_weigh_26 h (fun _ _ hc => s_X10_ofNote (d := d) x4 (1 : Int32)  hc) (fun r5 σ6 h => ?_)
    refine v_iload_n C dX10_weigh_29 rfl rfl ?_
    refine v_join (fun k => ∀ (v7 : Int32) (σ8 : Sto), k v7 σ8 = some (r, τ) → V X G 0 0 (QE X G (some (.int r)) τ) σ8 60 [some (.ref (ad G 10 0 0)), some (.int a1), some (.int a2), some (.int x3), some (.int x4)] [.int v7, .int x4, .ref (ad G 24 0 0)]) h (fun v7 σ8 h => ?_) (fun k9 hk9 h => ?_)
    · refine as_24 C dX10_weigh_60 h (fun h => ?_)
      refine v_iload_n C dX10_weigh_61 rfl rfl ?_
      refine v_aload_n C dX10_weigh_62 rfl rfl ?_
      refine gf_X10_29 C dX10_weigh_63 ?_
      refine v_iload C dX10_weigh_66 rfl ?_
      refine ld_24 C dX10_weigh_68 h (fun h => ?_)
      refine v_iadd C dX10_weigh_69 ?_
      refine v_istore_n C dX10_weigh_70 rfl (Nat.le_of_ble_eq_true rfl) (lc1 := [some (.ref (ad G 10 0 0)), some (.int a1), some (.int a2), some (.int (x3 + ((up σ8 384 0 x4.toNatClampNeg v7).1 384 0 x4.toNatClampNeg))), some (.int x4)]) rfl ?_
      refine v_iinc C dX10_weigh_71 rfl (kc_1 _) (lc1 := [some (.ref (ad G 10 0 0)), some (.int a1), some (.int a2), some (.int (x3 + ((up σ8 384 0 x4.toNatClampNeg v7).1 384 0 x4.toNatClampNeg))), some (.int (x4 + 1))]) rfl ?_
      refine v_goto C dX10_weigh_74 (tgt := 5) (by decide) ?_
      refine v_mask [true, true, true, true, true] (lc' := [some (.ref (ad G 10 0 0)), some (.int a1), some (.int a2), some (.int (x3 + ((up σ8 384 0 x4.toNatClampNeg v7).1 384 0 x4.toNatClampNeg))), some (.int (x4 + 1))]) rfl ?_
      exact hrec1 _ _ _ h
    · refine v_icmp_ne C dX10_weigh_30 (tgt := 59) (by decide) h (fun h => ?_) (fun h => ?_)
      · refine v_iconst C dX10_weigh_59 ki_0 ?_
        refine v_mask [true, true, true, true, true] (lc' := [some (.ref (ad G 10 0 0)), some (.int a1), some (.int a2), some (.int x3), some (.int x4)]) rfl ?_
        exact hk9 _ _ h
      · refine v_iload_n C dX10_weigh_33 rfl rfl ?_
        refine v_iconst C dX10_weigh_34 ki_2 ?_
        refine v_icmp_eq C dX10_weigh_35 (tgt := 49) (by decide) h (fun h => ?_) (fun h => ?_)
        · refine v_aload_n C dX10_weigh_49 rfl rfl ?_
          refine v_iload C dX10_weigh_50 rfl ?_
          refine v_iconst C dX10_weigh_52 ki_3 ?_
          refine cVi C 10 0 0 (av := [.int x4, .int (3 : Int32)]) si_X10_ofNote lk_X10_78 (ok10) rfl rfl rfl rfl (st := [.int x4, .ref (ad G 24 0 0)]) rfl (Nat.le_of_ble_eq_true rfl) dX10_weigh_53 h (fun _ _ hc => s_X10_ofNote (d := d) x4 (3 : Int32)  hc) (fun r10 σ11 h => ?_)
          refine v_goto C dX10_weigh_56 (tgt := 60) (by decide) ?_
          refine v_mask [true, true, true, true, true] (lc' := [some (.ref (ad G 10 0 0)), some (.int a1), some (.int a2), some (.int x3), some (.int x4)]) rfl ?_
          exact hk9 _ _ h
        · refine v_aload_n C dX10_weigh_38 rfl rfl ?_
          refine v_iload C dX10_weigh_39 rfl ?_
          refine v_iconst C dX10_weigh_41 ki_2 ?_
          refine cVi C 10 0 0 (av := [.int x4, .int (2 : Int32)]) si_X10_ofNote lk_X10_78 (ok10) rfl rfl rfl rfl (st := [.int x4, .ref (ad G 24 0 0)]) rfl (Nat.le_of_ble_eq_true rfl) dX10_weigh_42 h (fun _ _ hc => s_X10_ofNote (d := d) x4 (2 : Int32)  hc) (fun r12 σ13 h => ?_)
          refine v_iload_n C dX10_weigh_45 rfl rfl ?_
          refine v_icmp_ne C dX10_weigh_46 (tgt := 59) (by decide) h (fun h => ?_) (fun h => ?_)
          · refine v_iconst C dX10_weigh_59 ki_0 ?_
            refine v_mask [true, true, true, true, true] (lc' := [some (.ref (ad G 10 0 0)), some (.int a1), some (.int a2), some (.int x3), some (.int x4)]) rfl ?_
            exact hk9 _ _ h
          · refine v_aload_n C dX10_weigh_49 rfl rfl ?_
            refine v_iload C dX10_weigh_50 rfl ?_
            refine v_iconst C dX10_weigh_52 ki_3 ?_
            refine cVi C 10 0 0 (av := [.int x4, .int (3 : Int32)]) si_X10_ofNote lk_X10_78 (ok10) rfl rfl rfl rfl (st := [.int x4, .ref (ad G 24 0 0)]) rfl (Nat.le_of_ble_eq_true rfl) dX10_weigh_53 h (fun _ _ hc => s_X10_ofNote (d := d) x4 (3 : Int32)  hc) (fun r14 σ15 h => ?_)
            refine v_goto C dX10_weigh_56 (tgt := 60) (by decide) ?_
            refine v_mask [true, true, true, true, true] (lc' := [some (.ref (ad G 10 0 0)), some (.int a1), some (.int a2), some (.int x3), some (.int x4)]) rfl ?_
            exact hk9 _ _ h

def dc_X10_share (a1 : Int32) (a2 : Int32) (σ : Sto) : Option Sto :=
  wh2 (fun (rec1 : Int32 → Int32 → Sto → Option Sto) (x3 : Int32) (x4 : Int32) (σ2 : Sto) => (if inb (3 : Int32) 564 then (if (σ2.1 304 0 (3 : Int32).toNatClampNeg) ≤ x4 then wh2 (fun (rec5 : Int32 → Int32 → Sto → Option Sto) (x7 : Int32) (x8 : Int32) (σ6 : Sto) => (if inb (3 : Int32) 564 then (if (σ6.1 304 0 (3 : Int32).toNatClampNeg) ≤ x8 then some σ6 else (if a2 ≤ 0 then some σ6 else jn (fun (v9 : Int32) => (if inb x8 60 then (if inb x8 60 then rec5 (x7 - v9) (x8 + 1) (up σ6 400 0 x8.toNatClampNeg ((σ6.1 400 0 x8.toNatClampNeg) + v9)) else none) else none)) (fun k10 => (if x7 ≤ 0 then k10 (0 : Int32) else (if inb x8 60 then (if (σ6.1 384 0 x8.toNatClampNeg) ≤ 0 then k10 (0 : Int32) else k10 (1 : Int32)) else none))))) else none)) FU x3 (0 : Int32) σ2 else jn (fun (v11 : Int32) => (if inb x4 60 then (if inb x4 60 then rec1 (x3 - ((up σ2 400 0 x4.toNatClampNeg v11).1 400 0 x4.toNatClampNeg)) (x4 + 1) (up σ2 400 0 x4.toNatClampNeg v11) else none) else none)) (fun k12 => (if a2 = 0 then k12 (0 : Int32) else (if inb x4 60 then (if ¬ a2.toInt64 = 0 then k12 (((a1.toInt64 * ((σ2.1 384 0 x4.toNatClampNeg).toInt64)) / a2.toInt64).toInt32) else none) else none)))) else none)) FU a1 (0 : Int32) σ
set_option maxRecDepth 20000 in
set_option maxHeartbeats 4000000 in
theorem s_X10_share {G : Gm} {d : Nat} (a1 : Int32) (a2 : Int32) {σ τ : Sto} (h : dc_X10_share a1 a2 σ = some τ) : Cl G d m_X10_share [.ref (ad G 10 0 0), .int a1, .int a2] σ none τ := by
  unfold dc_X10_share at h
  refine Cl.mk (cc := cX10_share) (own := RX10) (nL := 6) (ret := none) rfl rfl rfl rfl (by decide +kernel) (catA rfl) (Nat.le_of_ble_eq_true rfl) (fun X C => ?_)
  show V X G 0 0 (QE X G none τ) σ 0 [some (.ref (ad G 10 0 0)), some (.int a1), some (.int a2), none, none, none] []
  refine v_iload_n C dX10_share_0 rfl rfl ?_
  refine v_istore_n C dX10_share_1 rfl (Nat.le_of_ble_eq_true rfl) (lc1 := [some (.ref (ad G 10 0 0)), some (.int a1), some (.int a2), some (.int a1), none, none]) rfl ?_
  refine v_iconst C dX10_share_2 ki_0 ?_
  refine v_istore C dX10_share_3 (Nat.le_of_ble_eq_true rfl) (lc1 := [some (.ref (ad G 10 0 0)), some (.int a1), some (.int a2), some (.int a1), some (.int (0 : Int32)), none]) rfl ?_
  refine v_loop2 (fun x3 x4 σ2 => V X G 0 0 (QE X G none τ) σ2 5 [some (.ref (ad G 10 0 0)), some (.int a1), some (.int a2), some (.int x3), some (.int x4), none] []) (fun rec1 hrec1 x3 x4 σ2 h => ?_) h
  refine v_iload C dX10_share_5 rfl ?_
  refine v_aload_n C dX10_share_7 rfl rfl ?_
  refine gf_X10_13 C dX10_share_8 ?_
  refine v_iconst C dX10_share_11 ki_3 ?_
  refine ld_19 C dX10_share_12 h (fun h => ?_)
  refine v_icmp_ge C dX10_share_13 (tgt := 62) (by decide) h (fun h => ?_) (fun h => ?_)
  · refine v_iconst C dX10_share_62 ki_0 ?_
    refine v_istore C dX10_share_63 (Nat.le_of_ble_eq_true rfl) (lc1 := [some (.ref (ad G 10 0 0)), some (.int a1), some (.int a2), some (.int x3), some (.int (0 : Int32)), none]) rfl ?_
    refine v_loop2 (fun x7 x8 σ6 => V X G 0 0 (QE X G none τ) σ6 65 [some (.ref (ad G 10 0 0)), some (.int a1), some (.int a2), some (.int x7), some (.int x8), none] []) (fun rec5 hrec5 x7 x8 σ6 h => ?_) h
    refine v_iload C dX10_share_65 rfl ?_
    refine v_aload_n C dX10_share_67 rfl rfl ?_
    refine gf_X10_13 C dX10_share_68 ?_
    refine v_iconst C dX10_share_71 ki_3 ?_
    refine ld_19 C dX10_share_72 h (fun h => ?_)
    refine v_icmp_ge C dX10_share_73 (tgt := 124) (by decide) h (fun h => ?_) (fun h => ?_)
    · exact v_vret C dX10_share_124 h
    · refine v_iload_n C dX10_share_76 rfl rfl ?_
      refine v_if_le C dX10_share_77 (tgt := 124) (by decide) h (fun h => ?_) (fun h => ?_)
      · exact v_vret C dX10_share_124 h
      · refine v_iload_n C dX10_share_80 rfl rfl ?_
        refine v_join (fun k => ∀ (v9 : Int32), k v9 = some τ → V X G 0 0 (QE X G none τ) σ6 99 [some (.ref (ad G 10 0 0)), some (.int a1), some (.int a2), some (.int x7), some (.int x8), none] [.int v9]) h (fun v9 h => ?_) (fun k10 hk10 h => ?_)
        · refine v_istore C dX10_share_99 (Nat.le_of_ble_eq_true rfl) (lc1 := [some (.ref (ad G 10 0 0)), some (.int a1), some (.int a2), some (.int x7), some (.int x8), some (.int v9)]) rfl ?_
          refine v_aload_n C dX10_share_101 rfl rfl ?_
          refine gf_X10_32 C dX10_share_102 ?_
          refine v_iload C dX10_share_105 rfl ?_
          refine v_dup2 C dX10_share_107 rfl rfl ?_
          refine ld_25 C dX10_share_108 h (fun h => ?_)
          refine v_iload C dX10_share_109 rfl ?_
          refine v_iadd C dX10_share_111 ?_
          refine as_25 C dX10_share_112 h (fun h => ?_)
          refine v_iload_n C dX10_share_113 rfl rfl ?_
          refine v_iload C dX10_share_114 rfl ?_
          refine v_isub C dX10_share_116 ?_
          refine v_istore_n C dX10_share_117 rfl (Nat.le_of_ble_eq_true rfl) (lc1 := [some (.ref (ad G 10 0 0)), some (.int a1), some (.int a2), some (.int (x7 - v9)), some (.int x8), some (.int v9)]) rfl ?_
          refine v_iinc C dX10_share_118 rfl (kc_1 _) (lc1 := [some (.ref (ad G 10 0 0)), some (.int a1), some (.int a2), some (.int (x7 - v9)), some (.int (x8 + 1)), some (.int v9)]) rfl ?_
          refine v_goto C dX10_share_121 (tgt := 65) (by decide) ?_
          refine v_mask [true, true, true, true, true, false] (lc' := [some (.ref (ad G 10 0 0)), some (.int a1), some (.int a2), some (.int (x7 - v9)), some (.int (x8 + 1)), none]) rfl ?_
          exact hrec5 _ _ _ h
        · refine v_if_le C dX10_share_81 (tgt := 98) (by decide) h (fun h => ?_) (fun h => ?_)
          · refine v_iconst C dX10_share_98 ki_0 ?_
            refine v_mask [true, true, true, true, true, false] (lc' := [some (.ref (ad G 10 0 0)), some (.int a1), some (.int a2), some (.int x7), some (.int x8), none]) rfl ?_
            exact hk10 _ h
          · refine v_aload_n C dX10_share_84 rfl rfl ?_
            refine gf_X10_29 C dX10_share_85 ?_
            refine v_iload C dX10_share_88 rfl ?_
            refine ld_24 C dX10_share_90 h (fun h => ?_)
            refine v_if_le C dX10_share_91 (tgt := 98) (by decide) h (fun h => ?_) (fun h => ?_)
            · refine v_iconst C dX10_share_98 ki_0 ?_
              refine v_mask [true, true, true, true, true, false] (lc' := [some (.ref (ad G 10 0 0)), some (.int a1), some (.int a2), some (.int x7), some (.int x8), none]) rfl ?_
              exact hk10 _ h
            · refine v_iconst C dX10_share_94 ki_1 ?_
              refine v_goto C dX10_share_95 (tgt := 99) (by decide) ?_
              refine v_mask [true, true, true, true, true, false] (lc' := [some (.ref (ad G 10 0 0)), some (.int a1), some (.int a2), some (.int x7), some (.int x8), none]) rfl ?_
              exact hk10 _ h
  · refine v_aload_n C dX10_share_16 rfl rfl ?_
    refine gf_X10_32 C dX10_share_17 ?_
    refine v_iload C dX10_share_20 rfl ?_
    refine v_iload_n C dX10_share_22 rfl rfl ?_
    refine v_join (fun k => ∀ (v11 : Int32), k v11 = some τ → V X G 0 0 (QE X G none τ) σ2 45 [some (.ref (ad G 10 0 0)), some (.int a1), some (.int a2), some (.int x3), some (.int x4), none] [.int v11, .int x4, .ref (ad G 25 0 0)]) h (fun v11 h => ?_) (fun k12 hk12 h => ?_)
    · refine as_25 C dX10_share_45 h (fun h => ?_)
      refine v_iload_n C dX10_share_46 rfl rfl ?_
      refine v_aload_n C dX10_share_47 rfl rfl ?_
      refine gf_X10_32 C dX10_share_48 ?_
      refine v_iload C dX10_share_51 rfl ?_
      refine ld_25 C dX10_share_53 h (fun h => ?_)
      refine v_isub C dX10_share_54 ?_
      refine v_istore_n C dX10_share_55 rfl (Nat.le_of_ble_eq_true rfl) (lc1 := [some (.ref (ad G 10 0 0)), some (.int a1), some (.int a2), some (.int (x3 - ((up σ2 400 0 x4.toNatClampNeg v11).1 400 0 x4.toNatClampNeg))), some (.int x4), none]) rfl ?_
      refine v_iinc C dX10_share_56 rfl (kc_1 _) (lc1 := [some (.ref (ad G 10 0 0)), some (.int a1), some (.int a2), some (.int (x3 - ((up σ2 400 0 x4.toNatClampNeg v11).1 400 0 x4.toNatClampNeg))), some (.int (x4 + 1)), none]) rfl ?_
      refine v_goto C dX10_share_59 (tgt := 5) (by decide) ?_
      refine v_mask [true, true, true, true, true, false] (lc' := [some (.ref (ad G 10 0 0)), some (.int a1), some (.int a2), some (.int (x3 - ((up σ2 400 0 x4.toNatClampNeg v11).1 400 0 x4.toNatClampNeg))), some (.int (x4 + 1)), none]) rfl ?_
      exact hrec1 _ _ _ h
    · refine v_if_ne C dX10_share_23 (tgt := 30) (by decide) h (fun h => ?_) (fun h => ?_)
      · refine v_iload_n C dX10_share_30 rfl rfl ?_
        refine v_i2l C dX10_share_31 ?_
        refine v_aload_n C dX10_share_32 rfl rfl ?_
        refine gf_X10_29 C dX10_share_33 ?_
        refine v_iload C dX10_share_36 rfl ?_
        refine ld_24 C dX10_share_38 h (fun h => ?_)
        refine v_i2l C dX10_share_39 ?_
        refine v_lmul C dX10_share_40 ?_
        refine v_iload_n C dX10_share_41 rfl rfl ?_
        refine v_i2l C dX10_share_42 ?_
        refine v_ldiv C dX10_share_43 (if_some h).1 ?_
        have h := (if_some h).2
        refine v_l2i C dX10_share_44 ?_
        refine v_mask [true, true, true, true, true, false] (lc' := [some (.ref (ad G 10 0 0)), some (.int a1), some (.int a2), some (.int x3), some (.int x4), none]) rfl ?_
        exact hk12 _ h
      · refine v_iconst C dX10_share_26 ki_0 ?_
        refine v_goto C dX10_share_27 (tgt := 45) (by decide) ?_
        refine v_mask [true, true, true, true, true, false] (lc' := [some (.ref (ad G 10 0 0)), some (.int a1), some (.int a2), some (.int x3), some (.int x4), none]) rfl ?_
        exact hk12 _ h

def dc_X10_payInterest (a1 : Int32) (a2 : Int32) (σ : Sto) : Option Sto :=
  (bd (dc_X10_weigh a1 (2 : Int32) σ) fun r1 σ2 => (bv (dc_X10_share a2 r1 σ2) fun σ4 => wh1 (fun (rec5 : Int32 → Sto → Option Sto) (x7 : Int32) (σ6 : Sto) => (if inb (3 : Int32) 564 then (if (σ6.1 304 0 (3 : Int32).toNatClampNeg) ≤ x7 then some σ6 else (bd (dc_X10_ofNote x7 (0 : Int32) σ6) fun r8 σ9 => (if inb x7 60 then (bv (dc_X10_payOut r8 (σ9.1 400 0 x7.toNatClampNeg) σ9) fun σ11 => (bd (dc_X10_ofNote x7 (0 : Int32) σ11) fun r12 σ13 => (if inb (((10 : Int32) + ((3 : Int32) * r12)) + (1 : Int32)) 564 then (if inb x7 60 then (if inb (((10 : Int32) + ((3 : Int32) * r12)) + (1 : Int32)) 564 then (if inb x7 60 then (bv (dc_X10_more x7 (5 : Int32) ((up σ13 304 0 (((10 : Int32) + ((3 : Int32) * r12)) + (1 : Int32)).toNatClampNeg ((σ13.1 304 0 (((10 : Int32) + ((3 : Int32) * r12)) + (1 : Int32)).toNatClampNeg) + (σ13.1 400 0 x7.toNatClampNeg))).1 400 0 x7.toNatClampNeg) (up σ13 304 0 (((10 : Int32) + ((3 : Int32) * r12)) + (1 : Int32)).toNatClampNeg ((σ13.1 304 0 (((10 : Int32) + ((3 : Int32) * r12)) + (1 : Int32)).toNatClampNeg) + (σ13.1 400 0 x7.toNatClampNeg)))) fun σ15 => rec5 (x7 + 1) σ15) else none) else none) else none) else none))) else none))) else none)) FU (0 : Int32) σ4))
set_option maxRecDepth 20000 in
set_option maxHeartbeats 4000000 in
theorem s_X10_payInterest {G : Gm} {d : Nat} (a1 : Int32) (a2 : Int32) {σ τ : Sto} (h : dc_X10_payInterest a1 a2 σ = some τ) : Cl G (d + 2) m_X10_payInterest [.ref (ad G 10 0 0), .int a1, .int a2] σ none τ := by
  unfold dc_X10_payInterest at h
  refine Cl.mk (cc := cX10_payInterest) (own := RX10) (nL := 4) (ret := none) rfl rfl rfl rfl (by decide +kernel) (catA rfl) (Nat.le_of_ble_eq_true rfl) (fun X C => ?_)
  show V X G 0 0 (QE X G none τ) σ 0 [some (.ref (ad G 10 0 0)), some (.int a1), some (.int a2), none] []
  refine v_aload_n C dX10_payInterest_0 rfl rfl ?_
  refine v_iload_n C dX10_payInterest_1 rfl rfl ?_
  refine v_aload_n C dX10_payInterest_2 rfl rfl ?_
  refine v_iload_n C dX10_payInterest_3 rfl rfl ?_
  refine v_iconst C dX10_payInterest_4 ki_2 ?_
  refine cVi C 10 0 0 (av := [.int a1, .int (2 : Int32)]) si_X10_weigh lk_X10_103 (ok10) rfl rfl rfl rfl (st := [.int a2, .ref (ad G 10 0 0)]) rfl (Nat.le_of_ble_eq_true rfl) dX10_payInterest_5 h (fun _ _ hc => s_X10_weigh (d := d) a1 (2 : Int32)  hc) (fun r1 σ2 h => ?_)
  refine cVv C 10 0 0 (av := [.int a2, .int r1]) si_X10_share lk_X10_106 (ok10) rfl rfl rfl rfl (st := []) rfl (Nat.le_of_ble_eq_true rfl) dX10_payInterest_8 h (fun _ hc => s_X10_share (d := (d + 1)) a2 r1  hc) (fun σ4 h => ?_)
  refine v_iconst C dX10_payInterest_11 ki_0 ?_
  refine v_istore_n C dX10_payInterest_12 rfl (Nat.le_of_ble_eq_true rfl) (lc1 := [some (.ref (ad G 10 0 0)), some (.int a1), some (.int a2), some (.int (0 : Int32))]) rfl ?_
  refine v_loop1 (fun x7 σ6 => V X G 0 0 (QE X G none τ) σ6 13 [some (.ref (ad G 10 0 0)), some (.int a1), some (.int a2), some (.int x7)] []) (fun rec5 hrec5 x7 σ6 h => ?_) h
  refine v_iload_n C dX10_payInterest_13 rfl rfl ?_
  refine v_aload_n C dX10_payInterest_14 rfl rfl ?_
  refine gf_X10_13 C dX10_payInterest_15 ?_
  refine v_iconst C dX10_payInterest_18 ki_3 ?_
  refine ld_19 C dX10_payInterest_19 h (fun h => ?_)
  refine v_icmp_ge C dX10_payInterest_20 (tgt := 84) (by decide) h (fun h => ?_) (fun h => ?_)
  · exact v_vret C dX10_payInterest_84 h
  · refine v_aload_n C dX10_payInterest_23 rfl rfl ?_
    refine v_aload_n C dX10_payInterest_24 rfl rfl ?_
    refine v_iload_n C dX10_payInterest_25 rfl rfl ?_
    refine v_iconst C dX10_payInterest_26 ki_0 ?_
    refine cVi C 10 0 0 (av := [.int x7, .int (0 : Int32)]) si_X10_ofNote lk_X10_78 (ok10) rfl rfl rfl rfl (st := [.ref (ad G 10 0 0)]) rfl (Nat.le_of_ble_eq_true rfl) dX10_payInterest_27 h (fun _ _ hc => s_X10_ofNote (d := (d + 1)) x7 (0 : Int32)  hc) (fun r8 σ9 h => ?_)
    refine v_aload_n C dX10_payInterest_30 rfl rfl ?_
    refine gf_X10_32 C dX10_payInterest_31 ?_
    refine v_iload_n C dX10_payInterest_34 rfl rfl ?_
    refine ld_25 C dX10_payInterest_35 h (fun h => ?_)
    refine cVv C 10 0 0 (av := [.int r8, .int (σ9.1 400 0 x7.toNatClampNeg)]) si_X10_payOut lk_X10_69 (ok10) rfl rfl rfl rfl (st := []) rfl (Nat.le_of_ble_eq_true rfl) dX10_payInterest_36 h (fun _ hc => s_X10_payOut (d := (d + 1)) r8 (σ9.1 400 0 x7.toNatClampNeg)  hc) (fun σ11 h => ?_)
    refine v_aload_n C dX10_payInterest_39 rfl rfl ?_
    refine gf_X10_13 C dX10_payInterest_40 ?_
    refine v_bipush C dX10_payInterest_43 kb_10 ?_
    refine v_iconst C dX10_payInterest_45 ki_3 ?_
    refine v_aload_n C dX10_payInterest_46 rfl rfl ?_
    refine v_iload_n C dX10_payInterest_47 rfl rfl ?_
    refine v_iconst C dX10_payInterest_48 ki_0 ?_
    refine cVi C 10 0 0 (av := [.int x7, .int (0 : Int32)]) si_X10_ofNote lk_X10_78 (ok10) rfl rfl rfl rfl (st := [.int (3 : Int32), .int (10 : Int32), .ref (ad G 19 0 0)]) rfl (Nat.le_of_ble_eq_true rfl) dX10_payInterest_49 h (fun _ _ hc => s_X10_ofNote (d := (d + 1)) x7 (0 : Int32)  hc) (fun r12 σ13 h => ?_)
    refine v_imul C dX10_payInterest_52 ?_
    refine v_iadd C dX10_payInterest_53 ?_
    refine v_iconst C dX10_payInterest_54 ki_1 ?_
    refine v_iadd C dX10_payInterest_55 ?_
    refine v_dup2 C dX10_payInterest_56 rfl rfl ?_
    refine ld_19 C dX10_payInterest_57 h (fun h => ?_)
    refine v_aload_n C dX10_payInterest_58 rfl rfl ?_
    refine gf_X10_32 C dX10_payInterest_59 ?_
    refine v_iload_n C dX10_payInterest_62 rfl rfl ?_
    refine ld_25 C dX10_payInterest_63 h (fun h => ?_)
    refine v_iadd C dX10_payInterest_64 ?_
    refine as_19 C dX10_payInterest_65 h (fun h => ?_)
    refine v_aload_n C dX10_payInterest_66 rfl rfl ?_
    refine v_iload_n C dX10_payInterest_67 rfl rfl ?_
    refine v_iconst C dX10_payInterest_68 ki_5 ?_
    refine v_aload_n C dX10_payInterest_69 rfl rfl ?_
    refine gf_X10_32 C dX10_payInterest_70 ?_
    refine v_iload_n C dX10_payInterest_73 rfl rfl ?_
    refine ld_25 C dX10_payInterest_74 h (fun h => ?_)
    refine cVv C 10 0 0 (av := [.int x7, .int (5 : Int32), .int ((up σ13 304 0 (((10 : Int32) + ((3 : Int32) * r12)) + (1 : Int32)).toNatClampNeg ((σ13.1 304 0 (((10 : Int32) + ((3 : Int32) * r12)) + (1 : Int32)).toNatClampNeg) + (σ13.1 400 0 x7.toNatClampNeg))).1 400 0 x7.toNatClampNeg)]) si_X10_more lk_X10_97 (ok10) rfl rfl rfl rfl (st := []) rfl (Nat.le_of_ble_eq_true rfl) dX10_payInterest_75 h (fun _ hc => s_X10_more (d := (d + 1)) x7 (5 : Int32) ((up σ13 304 0 (((10 : Int32) + ((3 : Int32) * r12)) + (1 : Int32)).toNatClampNeg ((σ13.1 304 0 (((10 : Int32) + ((3 : Int32) * r12)) + (1 : Int32)).toNatClampNeg) + (σ13.1 400 0 x7.toNatClampNeg))).1 400 0 x7.toNatClampNeg)  hc) (fun σ15 h => ?_)
    refine v_iinc C dX10_payInterest_78 rfl (kc_1 _) (lc1 := [some (.ref (ad G 10 0 0)), some (.int a1), some (.int a2), some (.int (x7 + 1))]) rfl ?_
    refine v_goto C dX10_payInterest_81 (tgt := 13) (by decide) ?_
    refine v_mask [true, true, true, true] (lc' := [some (.ref (ad G 10 0 0)), some (.int a1), some (.int a2), some (.int (x7 + 1))]) rfl ?_
    exact hrec5 _ _ h

def dc_X10_payPrincipal (a1 : Int32) (a2 : Int32) (a3 : Int32) (σ : Sto) : Option (Int32 × Sto) :=
  (bd (dc_X10_weigh a1 a2 σ) fun r1 σ2 => jn (fun (v3 : Int32) => (bv (dc_X10_share v3 r1 σ2) fun σ6 => wh1 (fun (rec7 : Int32 → Sto → Option (Int32 × Sto)) (x9 : Int32) (σ8 : Sto) => (if inb (3 : Int32) 564 then (if (σ8.1 304 0 (3 : Int32).toNatClampNeg) ≤ x9 then some (a3 - v3, σ8) else (bd (dc_X10_ofNote x9 (0 : Int32) σ8) fun r10 σ11 => (if inb x9 60 then (bv (dc_X10_payOut r10 (σ11.1 400 0 x9.toNatClampNeg) σ11) fun σ13 => (if inb x9 60 then (bv (dc_X10_more x9 (3 : Int32) (-(σ13.1 400 0 x9.toNatClampNeg)) σ13) fun σ15 => rec7 (x9 + 1) σ15) else none)) else none))) else none)) FU (0 : Int32) σ6)) (fun k4 => (if r1 ≤ a3 then k4 r1 else k4 a3)))
set_option maxRecDepth 20000 in
set_option maxHeartbeats 4000000 in
theorem s_X10_payPrincipal {G : Gm} {d : Nat} (a1 : Int32) (a2 : Int32) (a3 : Int32) {σ τ : Sto} {r : Int32} (h : dc_X10_payPrincipal a1 a2 a3 σ = some (r, τ)) : Cl G (d + 2) m_X10_payPrincipal [.ref (ad G 10 0 0), .int a1, .int a2, .int a3] σ (some (.int r)) τ := by
  unfold dc_X10_payPrincipal at h
  refine Cl.mk (cc := cX10_payPrincipal) (own := RX10) (nL := 7) (ret := (some .int)) rfl rfl rfl rfl (by decide +kernel) (catA rfl) (Nat.le_of_ble_eq_true rfl) (fun X C => ?_)
  show V X G 0 0 (QE X G (some (.int r)) τ) σ 0 [some (.ref (ad G 10 0 0)), some (.int a1), some (.int a2), some (.int a3), none, none, none] []
  refine v_aload_n C dX10_payPrincipal_0 rfl rfl ?_
  refine v_iload_n C dX10_payPrincipal_1 rfl rfl ?_
  refine v_iload_n C dX10_payPrincipal_2 rfl rfl ?_
  refine cVi C 10 0 0 (av := [.int a1, .int a2]) si_X10_weigh lk_X10_103 (ok10) rfl rfl rfl rfl (st := []) rfl (Nat.le_of_ble_eq_true rfl) dX10_payPrincipal_3 h (fun _ _ hc => s_X10_weigh (d := d) a1 a2  hc) (fun r1 σ2 h => ?_)
  refine v_istore C dX10_payPrincipal_6 (Nat.le_of_ble_eq_true rfl) (lc1 := [some (.ref (ad G 10 0 0)), some (.int a1), some (.int a2), some (.int a3), some (.int r1), none, none]) rfl ?_
  refine v_iload_n C dX10_payPrincipal_8 rfl rfl ?_
  refine v_iload C dX10_payPrincipal_9 rfl ?_
  refine v_join (fun k => ∀ (v3 : Int32), k v3 = some (r, τ) → V X G 0 0 (QE X G (some (.int r)) τ) σ2 20 [some (.ref (ad G 10 0 0)), some (.int a1), some (.int a2), some (.int a3), some (.int r1), none, none] [.int v3]) h (fun v3 h => ?_) (fun k4 hk4 h => ?_)
  · refine v_istore C dX10_payPrincipal_20 (Nat.le_of_ble_eq_true rfl) (lc1 := [some (.ref (ad G 10 0 0)), some (.int a1), some (.int a2), some (.int a3), some (.int r1), some (.int v3), none]) rfl ?_
    refine v_aload_n C dX10_payPrincipal_22 rfl rfl ?_
    refine v_iload C dX10_payPrincipal_23 rfl ?_
    refine v_iload C dX10_payPrincipal_25 rfl ?_
    refine cVv C 10 0 0 (av := [.int v3, .int r1]) si_X10_share lk_X10_106 (ok10) rfl rfl rfl rfl (st := []) rfl (Nat.le_of_ble_eq_true rfl) dX10_payPrincipal_27 h (fun _ hc => s_X10_share (d := (d + 1)) v3 r1  hc) (fun σ6 h => ?_)
    refine v_iconst C dX10_payPrincipal_30 ki_0 ?_
    refine v_istore C dX10_payPrincipal_31 (Nat.le_of_ble_eq_true rfl) (lc1 := [some (.ref (ad G 10 0 0)), some (.int a1), some (.int a2), some (.int a3), some (.int r1), some (.int v3), some (.int (0 : Int32))]) rfl ?_
    refine v_loop1 (fun x9 σ8 => V X G 0 0 (QE X G (some (.int r)) τ) σ8 33 [some (.ref (ad G 10 0 0)), some (.int a1), some (.int a2), some (.int a3), some (.int r1), some (.int v3), some (.int x9)] []) (fun rec7 hrec7 x9 σ8 h => ?_) h
    refine v_iload C dX10_payPrincipal_33 rfl ?_
    refine v_aload_n C dX10_payPrincipal_35 rfl rfl ?_
    refine gf_X10_13 C dX10_payPrincipal_36 ?_
    refine v_iconst C dX10_payPrincipal_39 ki_3 ?_
    refine ld_19 C dX10_payPrincipal_40 h (fun h => ?_)
    refine v_icmp_ge C dX10_payPrincipal_41 (tgt := 83) (by decide) h (fun h => ?_) (fun h => ?_)
    · refine v_iload_n C dX10_payPrincipal_83 rfl rfl ?_
      refine v_iload C dX10_payPrincipal_84 rfl ?_
      refine v_isub C dX10_payPrincipal_86 ?_
      exact v_iret C dX10_payPrincipal_87 h
    · refine v_aload_n C dX10_payPrincipal_44 rfl rfl ?_
      refine v_aload_n C dX10_payPrincipal_45 rfl rfl ?_
      refine v_iload C dX10_payPrincipal_46 rfl ?_
      refine v_iconst C dX10_payPrincipal_48 ki_0 ?_
      refine cVi C 10 0 0 (av := [.int x9, .int (0 : Int32)]) si_X10_ofNote lk_X10_78 (ok10) rfl rfl rfl rfl (st := [.ref (ad G 10 0 0)]) rfl (Nat.le_of_ble_eq_true rfl) dX10_payPrincipal_49 h (fun _ _ hc => s_X10_ofNote (d := (d + 1)) x9 (0 : Int32)  hc) (fun r10 σ11 h => ?_)
      refine v_aload_n C dX10_payPrincipal_52 rfl rfl ?_
      refine gf_X10_32 C dX10_payPrincipal_53 ?_
      refine v_iload C dX10_payPrincipal_56 rfl ?_
      refine ld_25 C dX10_payPrincipal_58 h (fun h => ?_)
      refine cVv C 10 0 0 (av := [.int r10, .int (σ11.1 400 0 x9.toNatClampNeg)]) si_X10_payOut lk_X10_69 (ok10) rfl rfl rfl rfl (st := []) rfl (Nat.le_of_ble_eq_true rfl) dX10_payPrincipal_59 h (fun _ hc => s_X10_payOut (d := (d + 1)) r10 (σ11.1 400 0 x9.toNatClampNeg)  hc) (fun σ13 h => ?_)
      refine v_aload_n C dX10_payPrincipal_62 rfl rfl ?_
      refine v_iload C dX10_payPrincipal_63 rfl ?_
      refine v_iconst C dX10_payPrincipal_65 ki_3 ?_
      refine v_aload_n C dX10_payPrincipal_66 rfl rfl ?_
      refine gf_X10_32 C dX10_payPrincipal_67 ?_
      refine v_iload C dX10_payPrincipal_70 rfl ?_
      refine ld_25 C dX10_payPrincipal_72 h (fun h => ?_)
      refine v_ineg C dX10_payPrincipal_73 ?_
      refine cVv C 10 0 0 (av := [.int x9, .int (3 : Int32), .int (-(σ13.1 400 0 x9.toNatClampNeg))]) si_X10_more lk_X10_97 (ok10) rfl rfl rfl rfl (st := []) rfl (Nat.le_of_ble_eq_true rfl) dX10_payPrincipal_74 h (fun _ hc => s_X10_more (d := (d + 1)) x9 (3 : Int32) (-(σ13.1 400 0 x9.toNatClampNeg))  hc) (fun σ15 h => ?_)
      refine v_iinc C dX10_payPrincipal_77 rfl (kc_1 _) (lc1 := [some (.ref (ad G 10 0 0)), some (.int a1), some (.int a2), some (.int a3), some (.int r1), some (.int v3), some (.int (x9 + 1))]) rfl ?_
      refine v_goto C dX10_payPrincipal_80 (tgt := 33) (by decide) ?_
      refine v_mask [true, true, true, true, true, true, true] (lc' := [some (.ref (ad G 10 0 0)), some (.int a1), some (.int a2), some (.int a3), some (.int r1), some (.int v3), some (.int (x9 + 1))]) rfl ?_
      exact hrec7 _ _ h
  · refine v_icmp_ge C dX10_payPrincipal_11 (tgt := 18) (by decide) h (fun h => ?_) (fun h => ?_)
    · refine v_iload C dX10_payPrincipal_18 rfl ?_
      refine v_mask [true, true, true, true, true, false, false] (lc' := [some (.ref (ad G 10 0 0)), some (.int a1), some (.int a2), some (.int a3), some (.int r1), none, none]) rfl ?_
      exact hk4 _ h
    · refine v_iload_n C dX10_payPrincipal_14 rfl rfl ?_
      refine v_goto C dX10_payPrincipal_15 (tgt := 20) (by decide) ?_
      refine v_mask [true, true, true, true, true, false, false] (lc' := [some (.ref (ad G 10 0 0)), some (.int a1), some (.int a2), some (.int a3), some (.int r1), none, none]) rfl ?_
      exact hk4 _ h

def dc_X10_feeFor (a1 : Int32) (a2 : Int32) (σ : Sto) : Option (Int32 × Sto) :=
  (bd (dc_X10_of a1 (9 : Int32) σ) fun r1 σ2 => (bd (dc_X10_feeOf r1 σ2) fun r3 σ4 => some (((a2.toInt64 * r3.toInt64) / (1000 : Int64)).toInt32, σ4)))
set_option maxRecDepth 20000 in
set_option maxHeartbeats 4000000 in
theorem s_X10_feeFor {G : Gm} {d : Nat} (a1 : Int32) (a2 : Int32) {σ τ : Sto} {r : Int32} (h : dc_X10_feeFor a1 a2 σ = some (r, τ)) : Cl G (d + 1) m_X10_feeFor [.ref (ad G 10 0 0), .int a1, .int a2] σ (some (.int r)) τ := by
  unfold dc_X10_feeFor at h
  refine Cl.mk (cc := cX10_feeFor) (own := RX10) (nL := 3) (ret := (some .int)) rfl rfl rfl rfl (by decide +kernel) (catA rfl) (Nat.le_of_ble_eq_true rfl) (fun X C => ?_)
  show V X G 0 0 (QE X G (some (.int r)) τ) σ 0 [some (.ref (ad G 10 0 0)), some (.int a1), some (.int a2)] []
  refine v_iload_n C dX10_feeFor_0 rfl rfl ?_
  refine v_i2l C dX10_feeFor_1 ?_
  refine v_aload_n C dX10_feeFor_2 rfl rfl ?_
  refine v_iload_n C dX10_feeFor_3 rfl rfl ?_
  refine v_bipush C dX10_feeFor_4 kb_9 ?_
  refine cVi C 10 0 0 (av := [.int a1, .int (9 : Int32)]) si_X10_of lk_X10_42 (ok10) rfl rfl rfl rfl (st := [.long a2.toInt64]) rfl (Nat.le_of_ble_eq_true rfl) dX10_feeFor_6 h (fun _ _ hc => s_X10_of (d := d) a1 (9 : Int32)  hc) (fun r1 σ2 h => ?_)
  refine cSi C (av := [.int r1]) si_X10_feeOf lk_X10_109 rfl rfl (st := [.long a2.toInt64]) rfl (Nat.le_of_ble_eq_true rfl) dX10_feeFor_9 h (fun _ _ hc => s_X10_feeOf (d := d) r1  hc) (fun r3 σ4 h => ?_)
  refine v_i2l C dX10_feeFor_12 ?_
  refine v_lmul C dX10_feeFor_13 ?_
  refine v_ldc2 C dX10_feeFor_14 lk_X10_112 ?_
  refine v_ldiv C dX10_feeFor_17 (by decide) ?_
  refine v_l2i C dX10_feeFor_18 ?_
  exact v_iret C dX10_feeFor_19 h

def dc_X10_canPay (a1 : Int32) (a2 : Int32) (σ : Sto) : Option (Int32 × Sto) :=
  (bd (dc_X10_runs a1 σ) fun r1 σ2 => (if r1 = 0 then some ((0 : Int32), σ2) else (bd (dc_X10_feeFor a1 a2 σ2) fun r3 σ4 => (bd (dc_X10_of a1 (6 : Int32) σ4) fun r5 σ6 => (bd (dc_X10_of a1 (4 : Int32) σ6) fun r7 σ8 => (if (r5 + r7) < (a2 - r3) then some ((0 : Int32), σ8) else some ((1 : Int32), σ8)))))))
set_option maxRecDepth 20000 in
set_option maxHeartbeats 4000000 in
theorem s_X10_canPay {G : Gm} {d : Nat} (a1 : Int32) (a2 : Int32) {σ τ : Sto} {r : Int32} (h : dc_X10_canPay a1 a2 σ = some (r, τ)) : Cl G (d + 2) m_X10_canPay [.ref (ad G 10 0 0), .int a1, .int a2] σ (some (.int r)) τ := by
  unfold dc_X10_canPay at h
  refine Cl.mk (cc := cX10_canPay) (own := RX10) (nL := 3) (ret := (some .boolean)) rfl rfl rfl rfl (by decide +kernel) (catA rfl) (Nat.le_of_ble_eq_true rfl) (fun X C => ?_)
  show V X G 0 0 (QE X G (some (.int r)) τ) σ 0 [some (.ref (ad G 10 0 0)), some (.int a1), some (.int a2)] []
  refine v_aload_n C dX10_canPay_0 rfl rfl ?_
  refine v_iload_n C dX10_canPay_1 rfl rfl ?_
  refine cVi C 10 0 0 (av := [.int a1]) si_X10_runs lk_X10_114 (ok10) rfl rfl rfl rfl (st := []) rfl (Nat.le_of_ble_eq_true rfl) dX10_canPay_2 h (fun _ _ hc => s_X10_runs (d := d) a1  hc) (fun r1 σ2 h => ?_)
  refine v_if_eq C dX10_canPay_5 (tgt := 37) (by decide) h (fun h => ?_) (fun h => ?_)
  · refine v_iconst C dX10_canPay_37 ki_0 ?_
    exact v_zretc C dX10_canPay_38 (nar01 (Or.inl rfl)) h
  · refine v_iload_n C dX10_canPay_8 rfl rfl ?_
    refine v_aload_n C dX10_canPay_9 rfl rfl ?_
    refine v_iload_n C dX10_canPay_10 rfl rfl ?_
    refine v_iload_n C dX10_canPay_11 rfl rfl ?_
    refine cVi C 10 0 0 (av := [.int a1, .int a2]) si_X10_feeFor lk_X10_117 (ok10) rfl rfl rfl rfl (st := [.int a2]) rfl (Nat.le_of_ble_eq_true rfl) dX10_canPay_12 h (fun _ _ hc => s_X10_feeFor (d := d) a1 a2  hc) (fun r3 σ4 h => ?_)
    refine v_isub C dX10_canPay_15 ?_
    refine v_aload_n C dX10_canPay_16 rfl rfl ?_
    refine v_iload_n C dX10_canPay_17 rfl rfl ?_
    refine v_bipush C dX10_canPay_18 kb_6 ?_
    refine cVi C 10 0 0 (av := [.int a1, .int (6 : Int32)]) si_X10_of lk_X10_42 (ok10) rfl rfl rfl rfl (st := [.int (a2 - r3)]) rfl (Nat.le_of_ble_eq_true rfl) dX10_canPay_20 h (fun _ _ hc => s_X10_of (d := (d + 1)) a1 (6 : Int32)  hc) (fun r5 σ6 h => ?_)
    refine v_aload_n C dX10_canPay_23 rfl rfl ?_
    refine v_iload_n C dX10_canPay_24 rfl rfl ?_
    refine v_iconst C dX10_canPay_25 ki_4 ?_
    refine cVi C 10 0 0 (av := [.int a1, .int (4 : Int32)]) si_X10_of lk_X10_42 (ok10) rfl rfl rfl rfl (st := [.int r5, .int (a2 - r3)]) rfl (Nat.le_of_ble_eq_true rfl) dX10_canPay_26 h (fun _ _ hc => s_X10_of (d := (d + 1)) a1 (4 : Int32)  hc) (fun r7 σ8 h => ?_)
    refine v_iadd C dX10_canPay_29 ?_
    refine v_icmp_gt C dX10_canPay_30 (tgt := 37) (by decide) h (fun h => ?_) (fun h => ?_)
    · refine v_iconst C dX10_canPay_37 ki_0 ?_
      exact v_zretc C dX10_canPay_38 (nar01 (Or.inl rfl)) h
    · refine v_iconst C dX10_canPay_33 ki_1 ?_
      refine v_goto C dX10_canPay_34 (tgt := 38) (by decide) ?_
      exact v_zretc C dX10_canPay_38 (nar01 (Or.inr rfl)) h

def dc_X10_splitBy (a1 : Int32) (a2 : Int32) (a3 : Int32) (σ : Sto) : Option (Int32 × Sto) :=
  (bd (dc_X10_feeFor a1 a2 σ) fun r1 σ2 => (bd (dc_X10_of a1 (6 : Int32) σ2) fun r3 σ4 => jn (fun (v5 : Int32) (σ6 : Sto) => (bd (dc_X10_principals a1 (0 : Int32) σ6) fun r8 σ9 => jn (fun (v10 : Int32) => (if a3 = (0 : Int32) then some (r1, σ9) else (if a3 = (1 : Int32) then some (v5, σ9) else (if a3 = (2 : Int32) then (if inb (5 : Int32) 564 then some (((v5.toInt64 * ((σ9.1 304 0 (5 : Int32).toNatClampNeg).toInt64)) / (100 : Int64)).toInt32, σ9) else none) else (if a3 = (3 : Int32) then some ((a2 - r1) - v5, σ9) else (if a3 = (4 : Int32) then some (v10, σ9) else some (((a2 - r1) - v5) - v10, σ9))))))) (fun k11 => (if r8 ≤ ((a2 - r1) - v5) then k11 r8 else k11 ((a2 - r1) - v5))))) (fun k7 => (if r3 ≤ (a2 - r1) then (bd (dc_X10_of a1 (6 : Int32) σ4) fun r17 σ18 => k7 r17 σ18) else k7 (a2 - r1) σ4))))
set_option maxRecDepth 20000 in
set_option maxHeartbeats 4000000 in
theorem s_X10_splitBy {G : Gm} {d : Nat} (a1 : Int32) (a2 : Int32) (a3 : Int32) {σ τ : Sto} {r : Int32} (h : dc_X10_splitBy a1 a2 a3 σ = some (r, τ)) : Cl G (d + 2) m_X10_splitBy [.ref (ad G 10 0 0), .int a1, .int a2, .int a3] σ (some (.int r)) τ := by
  unfold dc_X10_splitBy at h
  refine Cl.mk (cc := cX10_splitBy) (own := RX10) (nL := 9) (ret := (some .int)) rfl rfl rfl rfl (by decide +kernel) (catA rfl) (Nat.le_of_ble_eq_true rfl) (fun X C => ?_)
  show V X G 0 0 (QE X G (some (.int r)) τ) σ 0 [some (.ref (ad G 10 0 0)), some (.int a1), some (.int a2), some (.int a3), none, none, none, none, none] []
  refine v_aload_n C dX10_splitBy_0 rfl rfl ?_
  refine v_iload_n C dX10_splitBy_1 rfl rfl ?_
  refine v_iload_n C dX10_splitBy_2 rfl rfl ?_
  refine cVi C 10 0 0 (av := [.int a1, .int a2]) si_X10_feeFor lk_X10_117 (ok10) rfl rfl rfl rfl (st := []) rfl (Nat.le_of_ble_eq_true rfl) dX10_splitBy_3 h (fun _ _ hc => s_X10_feeFor (d := d) a1 a2  hc) (fun r1 σ2 h => ?_)
  refine v_istore C dX10_splitBy_6 (Nat.le_of_ble_eq_true rfl) (lc1 := [some (.ref (ad G 10 0 0)), some (.int a1), some (.int a2), some (.int a3), some (.int r1), none, none, none, none]) rfl ?_
  refine v_iload_n C dX10_splitBy_8 rfl rfl ?_
  refine v_iload C dX10_splitBy_9 rfl ?_
  refine v_isub C dX10_splitBy_11 ?_
  refine v_aload_n C dX10_splitBy_12 rfl rfl ?_
  refine v_iload_n C dX10_splitBy_13 rfl rfl ?_
  refine v_bipush C dX10_splitBy_14 kb_6 ?_
  refine cVi C 10 0 0 (av := [.int a1, .int (6 : Int32)]) si_X10_of lk_X10_42 (ok10) rfl rfl rfl rfl (st := [.int (a2 - r1)]) rfl (Nat.le_of_ble_eq_true rfl) dX10_splitBy_16 h (fun _ _ hc => s_X10_of (d := (d + 1)) a1 (6 : Int32)  hc) (fun r3 σ4 h => ?_)
  refine v_join (fun k => ∀ (v5 : Int32) (σ6 : Sto), k v5 σ6 = some (r, τ) → V X G 0 0 (QE X G (some (.int r)) τ) σ6 36 [some (.ref (ad G 10 0 0)), some (.int a1), some (.int a2), some (.int a3), some (.int r1), none, none, none, none] [.int v5]) h (fun v5 σ6 h => ?_) (fun k7 hk7 h => ?_)
  · refine v_istore C dX10_splitBy_36 (Nat.le_of_ble_eq_true rfl) (lc1 := [some (.ref (ad G 10 0 0)), some (.int a1), some (.int a2), some (.int a3), some (.int r1), some (.int v5), none, none, none]) rfl ?_
    refine v_iload_n C dX10_splitBy_38 rfl rfl ?_
    refine v_iload C dX10_splitBy_39 rfl ?_
    refine v_isub C dX10_splitBy_41 ?_
    refine v_iload C dX10_splitBy_42 rfl ?_
    refine v_isub C dX10_splitBy_44 ?_
    refine v_istore C dX10_splitBy_45 (Nat.le_of_ble_eq_true rfl) (lc1 := [some (.ref (ad G 10 0 0)), some (.int a1), some (.int a2), some (.int a3), some (.int r1), some (.int v5), some (.int ((a2 - r1) - v5)), none, none]) rfl ?_
    refine v_aload_n C dX10_splitBy_47 rfl rfl ?_
    refine v_iload_n C dX10_splitBy_48 rfl rfl ?_
    refine v_iconst C dX10_splitBy_49 ki_0 ?_
    refine cVi C 10 0 0 (av := [.int a1, .int (0 : Int32)]) si_X10_principals lk_X10_81 (ok10) rfl rfl rfl rfl (st := []) rfl (Nat.le_of_ble_eq_true rfl) dX10_splitBy_50 h (fun _ _ hc => s_X10_principals (d := d) a1 (0 : Int32)  hc) (fun r8 σ9 h => ?_)
    refine v_istore C dX10_splitBy_53 (Nat.le_of_ble_eq_true rfl) (lc1 := [some (.ref (ad G 10 0 0)), some (.int a1), some (.int a2), some (.int a3), some (.int r1), some (.int v5), some (.int ((a2 - r1) - v5)), some (.int r8), none]) rfl ?_
    refine v_iload C dX10_splitBy_55 rfl ?_
    refine v_iload C dX10_splitBy_57 rfl ?_
    refine v_join (fun k => ∀ (v10 : Int32), k v10 = some (r, τ) → V X G 0 0 (QE X G (some (.int r)) τ) σ9 69 [some (.ref (ad G 10 0 0)), some (.int a1), some (.int a2), some (.int a3), some (.int r1), some (.int v5), some (.int ((a2 - r1) - v5)), some (.int r8), none] [.int v10]) h (fun v10 h => ?_) (fun k11 hk11 h => ?_)
    · refine v_istore C dX10_splitBy_69 (Nat.le_of_ble_eq_true rfl) (lc1 := [some (.ref (ad G 10 0 0)), some (.int a1), some (.int a2), some (.int a3), some (.int r1), some (.int v5), some (.int ((a2 - r1) - v5)), some (.int r8), some (.int v10)]) rfl ?_
      refine v_iload_n C dX10_splitBy_71 rfl rfl ?_
      refine v_tcase h (fun hc12 h => ?_) (fun hc12 h => ?_)
      · refine v_tin C dX10_splitBy_72 (tgt := 108) (by rw [hc12]; decide) (by rw [hc12]; decide) (by rw [hc12]; exact rfl) (by decide) ?_
        refine v_iload C dX10_splitBy_108 rfl ?_
        exact v_iret C dX10_splitBy_110 h
      refine v_tcase h (fun hc13 h => ?_) (fun hc13 h => ?_)
      · refine v_tin C dX10_splitBy_72 (tgt := 111) (by rw [hc13]; decide) (by rw [hc13]; decide) (by rw [hc13]; exact rfl) (by decide) ?_
        refine v_iload C dX10_splitBy_111 rfl ?_
        exact v_iret C dX10_splitBy_113 h
      refine v_tcase h (fun hc14 h => ?_) (fun hc14 h => ?_)
      · refine v_tin C dX10_splitBy_72 (tgt := 114) (by rw [hc14]; decide) (by rw [hc14]; decide) (by rw [hc14]; exact rfl) (by decide) ?_
        refine v_iload C dX10_splitBy_114 rfl ?_
        refine v_i2l C dX10_splitBy_116 ?_
        refine v_aload_n C dX10_splitBy_117 rfl rfl ?_
        refine gf_X10_13 C dX10_splitBy_118 ?_
        refine v_iconst C dX10_splitBy_121 ki_5 ?_
        refine ld_19 C dX10_splitBy_122 h (fun h => ?_)
        refine v_i2l C dX10_splitBy_123 ?_
        refine v_lmul C dX10_splitBy_124 ?_
        refine v_ldc2 C dX10_splitBy_125 lk_X10_120 ?_
        refine v_ldiv C dX10_splitBy_128 (by decide) ?_
        refine v_l2i C dX10_splitBy_129 ?_
        exact v_iret C dX10_splitBy_130 h
      refine v_tcase h (fun hc15 h => ?_) (fun hc15 h => ?_)
      · refine v_tin C dX10_splitBy_72 (tgt := 131) (by rw [hc15]; decide) (by rw [hc15]; decide) (by rw [hc15]; exact rfl) (by decide) ?_
        refine v_iload C dX10_splitBy_131 rfl ?_
        exact v_iret C dX10_splitBy_133 h
      refine v_tcase h (fun hc16 h => ?_) (fun hc16 h => ?_)
      · refine v_tin C dX10_splitBy_72 (tgt := 134) (by rw [hc16]; decide) (by rw [hc16]; decide) (by rw [hc16]; exact rfl) (by decide) ?_
        refine v_iload C dX10_splitBy_134 rfl ?_
        exact v_iret C dX10_splitBy_136 h
      have hc12t := tne hc12 (a := 0) (by decide)
      have hc13t := tne hc13 (a := 1) (by decide)
      have hc14t := tne hc14 (a := 2) (by decide)
      have hc15t := tne hc15 (a := 3) (by decide)
      have hc16t := tne hc16 (a := 4) (by decide)
      refine v_tout C dX10_splitBy_72 (tgt := 137) (by omega) (by decide) ?_
      refine v_iload C dX10_splitBy_137 rfl ?_
      refine v_iload C dX10_splitBy_139 rfl ?_
      refine v_isub C dX10_splitBy_141 ?_
      exact v_iret C dX10_splitBy_142 h
    · refine v_icmp_ge C dX10_splitBy_59 (tgt := 67) (by decide) h (fun h => ?_) (fun h => ?_)
      · refine v_iload C dX10_splitBy_67 rfl ?_
        refine v_mask [true, true, true, true, true, true, true, true, false] (lc' := [some (.ref (ad G 10 0 0)), some (.int a1), some (.int a2), some (.int a3), some (.int r1), some (.int v5), some (.int ((a2 - r1) - v5)), some (.int r8), none]) rfl ?_
        exact hk11 _ h
      · refine v_iload C dX10_splitBy_62 rfl ?_
        refine v_goto C dX10_splitBy_64 (tgt := 69) (by decide) ?_
        refine v_mask [true, true, true, true, true, true, true, true, false] (lc' := [some (.ref (ad G 10 0 0)), some (.int a1), some (.int a2), some (.int a3), some (.int r1), some (.int v5), some (.int ((a2 - r1) - v5)), some (.int r8), none]) rfl ?_
        exact hk11 _ h
  · refine v_icmp_ge C dX10_splitBy_19 (tgt := 29) (by decide) h (fun h => ?_) (fun h => ?_)
    · refine v_aload_n C dX10_splitBy_29 rfl rfl ?_
      refine v_iload_n C dX10_splitBy_30 rfl rfl ?_
      refine v_bipush C dX10_splitBy_31 kb_6 ?_
      refine cVi C 10 0 0 (av := [.int a1, .int (6 : Int32)]) si_X10_of lk_X10_42 (ok10) rfl rfl rfl rfl (st := []) rfl (Nat.le_of_ble_eq_true rfl) dX10_splitBy_33 h (fun _ _ hc => s_X10_of (d := (d + 1)) a1 (6 : Int32)  hc) (fun r17 σ18 h => ?_)
      refine v_mask [true, true, true, true, true, false, false, false, false] (lc' := [some (.ref (ad G 10 0 0)), some (.int a1), some (.int a2), some (.int a3), some (.int r1), none, none, none, none]) rfl ?_
      exact hk7 _ _ h
    · refine v_iload_n C dX10_splitBy_22 rfl rfl ?_
      refine v_iload C dX10_splitBy_23 rfl ?_
      refine v_isub C dX10_splitBy_25 ?_
      refine v_goto C dX10_splitBy_26 (tgt := 36) (by decide) ?_
      refine v_mask [true, true, true, true, true, false, false, false, false] (lc' := [some (.ref (ad G 10 0 0)), some (.int a1), some (.int a2), some (.int a3), some (.int r1), none, none, none, none]) rfl ?_
      exact hk7 _ _ h

def dc_X10_pay (a1 : Int32) (a2 : Int32) (σ : Sto) : Option (Int32 × Sto) :=
  (bv (dc_X10_aside  σ) fun σ2 => (bd (dc_X10_isLoan a1 σ2) fun r3 σ4 => (if r3 = 0 then some ((-1 : Int32), σ4) else (bd (dc_X10_in a2 (1 : Int32) (199999 : Int32) σ4) fun r5 σ6 => (if r5 = 0 then some ((-2 : Int32), σ6) else (bd (dc_X10_canPay a1 a2 σ6) fun r7 σ8 => (if r7 = 0 then some ((-4 : Int32), σ8) else (bd (dc_X10_splitBy a1 a2 (1 : Int32) σ8) fun r9 σ10 => (bd (dc_X10_splitBy a1 a2 (2 : Int32) σ10) fun r11 σ12 => (bd (dc_X10_splitBy a1 a2 (3 : Int32) σ12) fun r13 σ14 => (bd (dc_X10_of a1 (9 : Int32) σ14) fun r15 σ16 => (if inb ((6 : Int32) + r15) 564 then (bd (dc_X10_splitBy a1 a2 (0 : Int32) σ16) fun r17 σ18 => (if inb ((6 : Int32) + r15) 564 then (if inb (4 : Int32) 564 then (if inb (4 : Int32) 564 then (lt (up (up σ18 304 0 ((6 : Int32) + r15).toNatClampNeg ((σ16.1 304 0 ((6 : Int32) + r15).toNatClampNeg) + r17)) 304 0 (4 : Int32).toNatClampNeg (((up σ18 304 0 ((6 : Int32) + r15).toNatClampNeg ((σ16.1 304 0 ((6 : Int32) + r15).toNatClampNeg) + r17)).1 304 0 (4 : Int32).toNatClampNeg) + r11)) fun σ19 => (bv (dc_X10_payInterest a1 (r9 - r11) σ19) fun σ21 => (bd (dc_X10_payPrincipal a1 (0 : Int32) r13 σ21) fun r22 σ23 => (bd (dc_X10_payPrincipal a1 (1 : Int32) r22 σ23) fun r24 σ25 => (bd (dc_X10_of a1 (6 : Int32) σ25) fun r26 σ27 => (bv (dc_X10_be a1 (6 : Int32) (r26 - r9) σ27) fun σ29 => (bd (dc_X10_of a1 (4 : Int32) σ29) fun r30 σ31 => (bv (dc_X10_be a1 (4 : Int32) (r30 - r13) σ31) fun σ33 => (bd (dc_X10_of a1 (7 : Int32) σ33) fun r34 σ35 => jn (fun (v36 : Int32) (σ37 : Sto) => (bv (dc_X10_be a1 (7 : Int32) v36 σ37) fun σ40 => (bd (dc_X10_of a1 (6 : Int32) σ40) fun r41 σ42 => (bd (dc_X10_of a1 (7 : Int32) σ42) fun r43 σ44 => jn (fun (v45 : Int32) (σ46 : Sto) => (bv (dc_X10_be a1 (8 : Int32) v45 σ46) fun σ49 => (bd (dc_X10_of a1 (4 : Int32) σ49) fun r50 σ51 => (bd (dc_X10_of a1 (6 : Int32) σ51) fun r52 σ53 => jn (fun (σ54 : Sto) => (bd (dc_X10_of a1 (4 : Int32) σ54) fun r56 σ57 => (bd (dc_X10_acted r56 σ57) fun r58 σ59 => some (r58, σ59)))) (fun k55 => (if (r50 + r52) = 0 then (bv (dc_X10_ends a1 (2 : Int32) σ53) fun σ61 => k55 σ61) else k55 σ53)))))) (fun k47 => (if (r41 + r43) = 0 then k47 (0 : Int32) σ44 else (bd (dc_X10_of a1 (8 : Int32) σ44) fun r62 σ63 => k47 r62 σ63))))))) (fun k38 => (if r34 ≤ r13 then k38 (0 : Int32) σ35 else (bd (dc_X10_of a1 (7 : Int32) σ35) fun r64 σ65 => k38 (r64 - r13) σ65)))))))))))) else none) else none) else none)) else none))))))))))))
set_option maxRecDepth 20000 in
set_option maxHeartbeats 4000000 in
theorem s_X10_pay {G : Gm} {d : Nat} (a1 : Int32) (a2 : Int32) {σ τ : Sto} {r : Int32} (h : dc_X10_pay a1 a2 σ = some (r, τ)) : Cl G (d + 3) m_X10_pay [.ref (ad G 10 0 0), .int a1, .int a2] σ (some (.int r)) τ := by
  unfold dc_X10_pay at h
  refine Cl.mk (cc := cX10_pay) (own := RX10) (nL := 6) (ret := (some .int)) rfl rfl rfl rfl (by decide +kernel) (catA rfl) (Nat.le_of_ble_eq_true rfl) (fun X C => ?_)
  show V X G 0 0 (QE X G (some (.int r)) τ) σ 0 [some (.ref (ad G 10 0 0)), some (.int a1), some (.int a2), none, none, none] []
  refine v_aload_n C dX10_pay_0 rfl rfl ?_
  refine cVv C 10 0 0 (av := []) si_X10_aside lk_X10_58 (ok10) rfl rfl rfl rfl (st := []) rfl (Nat.le_of_ble_eq_true rfl) dX10_pay_1 h (fun _ hc => s_X10_aside (d := (d + 2))   hc) (fun σ2 h => ?_)
  refine v_aload_n C dX10_pay_4 rfl rfl ?_
  refine v_iload_n C dX10_pay_5 rfl rfl ?_
  refine cVi C 10 0 0 (av := [.int a1]) si_X10_isLoan lk_X10_84 (ok10) rfl rfl rfl rfl (st := []) rfl (Nat.le_of_ble_eq_true rfl) dX10_pay_6 h (fun _ _ hc => s_X10_isLoan (d := (d + 1)) a1  hc) (fun r3 σ4 h => ?_)
  refine v_if_ne C dX10_pay_9 (tgt := 14) (by decide) h (fun h => ?_) (fun h => ?_)
  · refine v_iload_n C dX10_pay_14 rfl rfl ?_
    refine v_iconst C dX10_pay_15 ki_1 ?_
    refine v_ldc C dX10_pay_16 lk_X10_122 ?_
    refine cSi C (av := [.int a2, .int (1 : Int32), .int (199999 : Int32)]) si_X10_in lk_X10_38 rfl rfl (st := []) rfl (Nat.le_of_ble_eq_true rfl) dX10_pay_18 h (fun _ _ hc => s_X10_in (d := (d + 2)) a2 (1 : Int32) (199999 : Int32)  hc) (fun r5 σ6 h => ?_)
    refine v_if_ne C dX10_pay_21 (tgt := 27) (by decide) h (fun h => ?_) (fun h => ?_)
    · refine v_aload_n C dX10_pay_27 rfl rfl ?_
      refine v_iload_n C dX10_pay_28 rfl rfl ?_
      refine v_iload_n C dX10_pay_29 rfl rfl ?_
      refine cVi C 10 0 0 (av := [.int a1, .int a2]) si_X10_canPay lk_X10_123 (ok10) rfl rfl rfl rfl (st := []) rfl (Nat.le_of_ble_eq_true rfl) dX10_pay_30 h (fun _ _ hc => s_X10_canPay (d := d) a1 a2  hc) (fun r7 σ8 h => ?_)
      refine v_if_ne C dX10_pay_33 (tgt := 39) (by decide) h (fun h => ?_) (fun h => ?_)
      · refine v_aload_n C dX10_pay_39 rfl rfl ?_
        refine v_iload_n C dX10_pay_40 rfl rfl ?_
        refine v_iload_n C dX10_pay_41 rfl rfl ?_
        refine v_iconst C dX10_pay_42 ki_1 ?_
        refine cVi C 10 0 0 (av := [.int a1, .int a2, .int (1 : Int32)]) si_X10_splitBy lk_X10_127 (ok10) rfl rfl rfl rfl (st := []) rfl (Nat.le_of_ble_eq_true rfl) dX10_pay_43 h (fun _ _ hc => s_X10_splitBy (d := d) a1 a2 (1 : Int32)  hc) (fun r9 σ10 h => ?_)
        refine v_istore_n C dX10_pay_46 rfl (Nat.le_of_ble_eq_true rfl) (lc1 := [some (.ref (ad G 10 0 0)), some (.int a1), some (.int a2), some (.int r9), none, none]) rfl ?_
        refine v_aload_n C dX10_pay_47 rfl rfl ?_
        refine v_iload_n C dX10_pay_48 rfl rfl ?_
        refine v_iload_n C dX10_pay_49 rfl rfl ?_
        refine v_iconst C dX10_pay_50 ki_2 ?_
        refine cVi C 10 0 0 (av := [.int a1, .int a2, .int (2 : Int32)]) si_X10_splitBy lk_X10_127 (ok10) rfl rfl rfl rfl (st := []) rfl (Nat.le_of_ble_eq_true rfl) dX10_pay_51 h (fun _ _ hc => s_X10_splitBy (d := d) a1 a2 (2 : Int32)  hc) (fun r11 σ12 h => ?_)
        refine v_istore C dX10_pay_54 (Nat.le_of_ble_eq_true rfl) (lc1 := [some (.ref (ad G 10 0 0)), some (.int a1), some (.int a2), some (.int r9), some (.int r11), none]) rfl ?_
        refine v_aload_n C dX10_pay_56 rfl rfl ?_
        refine v_iload_n C dX10_pay_57 rfl rfl ?_
        refine v_iload_n C dX10_pay_58 rfl rfl ?_
        refine v_iconst C dX10_pay_59 ki_3 ?_
        refine cVi C 10 0 0 (av := [.int a1, .int a2, .int (3 : Int32)]) si_X10_splitBy lk_X10_127 (ok10) rfl rfl rfl rfl (st := []) rfl (Nat.le_of_ble_eq_true rfl) dX10_pay_60 h (fun _ _ hc => s_X10_splitBy (d := d) a1 a2 (3 : Int32)  hc) (fun r13 σ14 h => ?_)
        refine v_istore C dX10_pay_63 (Nat.le_of_ble_eq_true rfl) (lc1 := [some (.ref (ad G 10 0 0)), some (.int a1), some (.int a2), some (.int r9), some (.int r11), some (.int r13)]) rfl ?_
        refine v_aload_n C dX10_pay_65 rfl rfl ?_
        refine gf_X10_13 C dX10_pay_66 ?_
        refine v_bipush C dX10_pay_69 kb_6 ?_
        refine v_aload_n C dX10_pay_71 rfl rfl ?_
        refine v_iload_n C dX10_pay_72 rfl rfl ?_
        refine v_bipush C dX10_pay_73 kb_9 ?_
        refine cVi C 10 0 0 (av := [.int a1, .int (9 : Int32)]) si_X10_of lk_X10_42 (ok10) rfl rfl rfl rfl (st := [.int (6 : Int32), .ref (ad G 19 0 0)]) rfl (Nat.le_of_ble_eq_true rfl) dX10_pay_75 h (fun _ _ hc => s_X10_of (d := (d + 2)) a1 (9 : Int32)  hc) (fun r15 σ16 h => ?_)
        refine v_iadd C dX10_pay_78 ?_
        refine v_dup2 C dX10_pay_79 rfl rfl ?_
        refine ld_19 C dX10_pay_80 h (fun h => ?_)
        refine v_aload_n C dX10_pay_81 rfl rfl ?_
        refine v_iload_n C dX10_pay_82 rfl rfl ?_
        refine v_iload_n C dX10_pay_83 rfl rfl ?_
        refine v_iconst C dX10_pay_84 ki_0 ?_
        refine cVi C 10 0 0 (av := [.int a1, .int a2, .int (0 : Int32)]) si_X10_splitBy lk_X10_127 (ok10) rfl rfl rfl rfl (st := [.int (σ16.1 304 0 ((6 : Int32) + r15).toNatClampNeg), .int ((6 : Int32) + r15), .ref (ad G 19 0 0)]) rfl (Nat.le_of_ble_eq_true rfl) dX10_pay_85 h (fun _ _ hc => s_X10_splitBy (d := d) a1 a2 (0 : Int32)  hc) (fun r17 σ18 h => ?_)
        refine v_iadd C dX10_pay_88 ?_
        refine as_19 C dX10_pay_89 h (fun h => ?_)
        refine v_aload_n C dX10_pay_90 rfl rfl ?_
        refine gf_X10_13 C dX10_pay_91 ?_
        refine v_iconst C dX10_pay_94 ki_4 ?_
        refine v_dup2 C dX10_pay_95 rfl rfl ?_
        refine ld_19 C dX10_pay_96 h (fun h => ?_)
        refine v_iload C dX10_pay_97 rfl ?_
        refine v_iadd C dX10_pay_99 ?_
        refine as_19 C dX10_pay_100 h (fun h => ?_)
        refine v_lt h (fun σ19 h => ?_)
        refine v_aload_n C dX10_pay_101 rfl rfl ?_
        refine v_iload_n C dX10_pay_102 rfl rfl ?_
        refine v_iload_n C dX10_pay_103 rfl rfl ?_
        refine v_iload C dX10_pay_104 rfl ?_
        refine v_isub C dX10_pay_106 ?_
        refine cVv C 10 0 0 (av := [.int a1, .int (r9 - r11)]) si_X10_payInterest lk_X10_131 (ok10) rfl rfl rfl rfl (st := []) rfl (Nat.le_of_ble_eq_true rfl) dX10_pay_107 h (fun _ hc => s_X10_payInterest (d := d) a1 (r9 - r11)  hc) (fun σ21 h => ?_)
        refine v_aload_n C dX10_pay_110 rfl rfl ?_
        refine v_iload_n C dX10_pay_111 rfl rfl ?_
        refine v_iconst C dX10_pay_112 ki_1 ?_
        refine v_aload_n C dX10_pay_113 rfl rfl ?_
        refine v_iload_n C dX10_pay_114 rfl rfl ?_
        refine v_iconst C dX10_pay_115 ki_0 ?_
        refine v_iload C dX10_pay_116 rfl ?_
        refine cVi C 10 0 0 (av := [.int a1, .int (0 : Int32), .int r13]) si_X10_payPrincipal lk_X10_134 (ok10) rfl rfl rfl rfl (st := [.int (1 : Int32), .int a1, .ref (ad G 10 0 0)]) rfl (Nat.le_of_ble_eq_true rfl) dX10_pay_118 h (fun _ _ hc => s_X10_payPrincipal (d := d) a1 (0 : Int32) r13  hc) (fun r22 σ23 h => ?_)
        refine cVi C 10 0 0 (av := [.int a1, .int (1 : Int32), .int r22]) si_X10_payPrincipal lk_X10_134 (ok10) rfl rfl rfl rfl (st := []) rfl (Nat.le_of_ble_eq_true rfl) dX10_pay_121 h (fun _ _ hc => s_X10_payPrincipal (d := d) a1 (1 : Int32) r22  hc) (fun r24 σ25 h => ?_)
        refine v_pop C dX10_pay_124 rfl ?_
        refine v_aload_n C dX10_pay_125 rfl rfl ?_
        refine v_iload_n C dX10_pay_126 rfl rfl ?_
        refine v_bipush C dX10_pay_127 kb_6 ?_
        refine v_aload_n C dX10_pay_129 rfl rfl ?_
        refine v_iload_n C dX10_pay_130 rfl rfl ?_
        refine v_bipush C dX10_pay_131 kb_6 ?_
        refine cVi C 10 0 0 (av := [.int a1, .int (6 : Int32)]) si_X10_of lk_X10_42 (ok10) rfl rfl rfl rfl (st := [.int (6 : Int32), .int a1, .ref (ad G 10 0 0)]) rfl (Nat.le_of_ble_eq_true rfl) dX10_pay_133 h (fun _ _ hc => s_X10_of (d := (d + 2)) a1 (6 : Int32)  hc) (fun r26 σ27 h => ?_)
        refine v_iload_n C dX10_pay_136 rfl rfl ?_
        refine v_isub C dX10_pay_137 ?_
        refine cVv C 10 0 0 (av := [.int a1, .int (6 : Int32), .int (r26 - r9)]) si_X10_be lk_X10_74 (ok10) rfl rfl rfl rfl (st := []) rfl (Nat.le_of_ble_eq_true rfl) dX10_pay_138 h (fun _ hc => s_X10_be (d := (d + 2)) a1 (6 : Int32) (r26 - r9)  hc) (fun σ29 h => ?_)
        refine v_aload_n C dX10_pay_141 rfl rfl ?_
        refine v_iload_n C dX10_pay_142 rfl rfl ?_
        refine v_iconst C dX10_pay_143 ki_4 ?_
        refine v_aload_n C dX10_pay_144 rfl rfl ?_
        refine v_iload_n C dX10_pay_145 rfl rfl ?_
        refine v_iconst C dX10_pay_146 ki_4 ?_
        refine cVi C 10 0 0 (av := [.int a1, .int (4 : Int32)]) si_X10_of lk_X10_42 (ok10) rfl rfl rfl rfl (st := [.int (4 : Int32), .int a1, .ref (ad G 10 0 0)]) rfl (Nat.le_of_ble_eq_true rfl) dX10_pay_147 h (fun _ _ hc => s_X10_of (d := (d + 2)) a1 (4 : Int32)  hc) (fun r30 σ31 h => ?_)
        refine v_iload C dX10_pay_150 rfl ?_
        refine v_isub C dX10_pay_152 ?_
        refine cVv C 10 0 0 (av := [.int a1, .int (4 : Int32), .int (r30 - r13)]) si_X10_be lk_X10_74 (ok10) rfl rfl rfl rfl (st := []) rfl (Nat.le_of_ble_eq_true rfl) dX10_pay_153 h (fun _ hc => s_X10_be (d := (d + 2)) a1 (4 : Int32) (r30 - r13)  hc) (fun σ33 h => ?_)
        refine v_aload_n C dX10_pay_156 rfl rfl ?_
        refine v_iload_n C dX10_pay_157 rfl rfl ?_
        refine v_bipush C dX10_pay_158 kb_7 ?_
        refine v_aload_n C dX10_pay_160 rfl rfl ?_
        refine v_iload_n C dX10_pay_161 rfl rfl ?_
        refine v_bipush C dX10_pay_162 kb_7 ?_
        refine cVi C 10 0 0 (av := [.int a1, .int (7 : Int32)]) si_X10_of lk_X10_42 (ok10) rfl rfl rfl rfl (st := [.int (7 : Int32), .int a1, .ref (ad G 10 0 0)]) rfl (Nat.le_of_ble_eq_true rfl) dX10_pay_164 h (fun _ _ hc => s_X10_of (d := (d + 2)) a1 (7 : Int32)  hc) (fun r34 σ35 h => ?_)
        refine v_iload C dX10_pay_167 rfl ?_
        refine v_join (fun k => ∀ (v36 : Int32) (σ37 : Sto), k v36 σ37 = some (r, τ) → V X G 0 0 (QE X G (some (.int r)) τ) σ37 186 [some (.ref (ad G 10 0 0)), some (.int a1), some (.int a2), some (.int r9), some (.int r11), some (.int r13)] [.int v36, .int (7 : Int32), .int a1, .ref (ad G 10 0 0)]) h (fun v36 σ37 h => ?_) (fun k38 hk38 h => ?_)
        · refine cVv C 10 0 0 (av := [.int a1, .int (7 : Int32), .int v36]) si_X10_be lk_X10_74 (ok10) rfl rfl rfl rfl (st := []) rfl (Nat.le_of_ble_eq_true rfl) dX10_pay_186 h (fun _ hc => s_X10_be (d := (d + 2)) a1 (7 : Int32) v36  hc) (fun σ40 h => ?_)
          refine v_aload_n C dX10_pay_189 rfl rfl ?_
          refine v_iload_n C dX10_pay_190 rfl rfl ?_
          refine v_bipush C dX10_pay_191 kb_8 ?_
          refine v_aload_n C dX10_pay_193 rfl rfl ?_
          refine v_iload_n C dX10_pay_194 rfl rfl ?_
          refine v_bipush C dX10_pay_195 kb_6 ?_
          refine cVi C 10 0 0 (av := [.int a1, .int (6 : Int32)]) si_X10_of lk_X10_42 (ok10) rfl rfl rfl rfl (st := [.int (8 : Int32), .int a1, .ref (ad G 10 0 0)]) rfl (Nat.le_of_ble_eq_true rfl) dX10_pay_197 h (fun _ _ hc => s_X10_of (d := (d + 2)) a1 (6 : Int32)  hc) (fun r41 σ42 h => ?_)
          refine v_aload_n C dX10_pay_200 rfl rfl ?_
          refine v_iload_n C dX10_pay_201 rfl rfl ?_
          refine v_bipush C dX10_pay_202 kb_7 ?_
          refine cVi C 10 0 0 (av := [.int a1, .int (7 : Int32)]) si_X10_of lk_X10_42 (ok10) rfl rfl rfl rfl (st := [.int r41, .int (8 : Int32), .int a1, .ref (ad G 10 0 0)]) rfl (Nat.le_of_ble_eq_true rfl) dX10_pay_204 h (fun _ _ hc => s_X10_of (d := (d + 2)) a1 (7 : Int32)  hc) (fun r43 σ44 h => ?_)
          refine v_iadd C dX10_pay_207 ?_
          refine v_join (fun k => ∀ (v45 : Int32) (σ46 : Sto), k v45 σ46 = some (r, τ) → V X G 0 0 (QE X G (some (.int r)) τ) σ46 222 [some (.ref (ad G 10 0 0)), some (.int a1), some (.int a2), some (.int r9), some (.int r11), some (.int r13)] [.int v45, .int (8 : Int32), .int a1, .ref (ad G 10 0 0)]) h (fun v45 σ46 h => ?_) (fun k47 hk47 h => ?_)
          · refine cVv C 10 0 0 (av := [.int a1, .int (8 : Int32), .int v45]) si_X10_be lk_X10_74 (ok10) rfl rfl rfl rfl (st := []) rfl (Nat.le_of_ble_eq_true rfl) dX10_pay_222 h (fun _ hc => s_X10_be (d := (d + 2)) a1 (8 : Int32) v45  hc) (fun σ49 h => ?_)
            refine v_aload_n C dX10_pay_225 rfl rfl ?_
            refine v_iload_n C dX10_pay_226 rfl rfl ?_
            refine v_iconst C dX10_pay_227 ki_4 ?_
            refine cVi C 10 0 0 (av := [.int a1, .int (4 : Int32)]) si_X10_of lk_X10_42 (ok10) rfl rfl rfl rfl (st := []) rfl (Nat.le_of_ble_eq_true rfl) dX10_pay_228 h (fun _ _ hc => s_X10_of (d := (d + 2)) a1 (4 : Int32)  hc) (fun r50 σ51 h => ?_)
            refine v_aload_n C dX10_pay_231 rfl rfl ?_
            refine v_iload_n C dX10_pay_232 rfl rfl ?_
            refine v_bipush C dX10_pay_233 kb_6 ?_
            refine cVi C 10 0 0 (av := [.int a1, .int (6 : Int32)]) si_X10_of lk_X10_42 (ok10) rfl rfl rfl rfl (st := [.int r50]) rfl (Nat.le_of_ble_eq_true rfl) dX10_pay_235 h (fun _ _ hc => s_X10_of (d := (d + 2)) a1 (6 : Int32)  hc) (fun r52 σ53 h => ?_)
            refine v_iadd C dX10_pay_238 ?_
            refine v_join (fun k => ∀ (σ54 : Sto), k σ54 = some (r, τ) → V X G 0 0 (QE X G (some (.int r)) τ) σ54 248 [some (.ref (ad G 10 0 0)), some (.int a1), some (.int a2), some (.int r9), some (.int r11), some (.int r13)] []) h (fun σ54 h => ?_) (fun k55 hk55 h => ?_)
            · refine v_aload_n C dX10_pay_248 rfl rfl ?_
              refine v_aload_n C dX10_pay_249 rfl rfl ?_
              refine v_iload_n C dX10_pay_250 rfl rfl ?_
              refine v_iconst C dX10_pay_251 ki_4 ?_
              refine cVi C 10 0 0 (av := [.int a1, .int (4 : Int32)]) si_X10_of lk_X10_42 (ok10) rfl rfl rfl rfl (st := [.ref (ad G 10 0 0)]) rfl (Nat.le_of_ble_eq_true rfl) dX10_pay_252 h (fun _ _ hc => s_X10_of (d := (d + 2)) a1 (4 : Int32)  hc) (fun r56 σ57 h => ?_)
              refine cVi C 10 0 0 (av := [.int r56]) si_X10_acted lk_X10_61 (ok10) rfl rfl rfl rfl (st := []) rfl (Nat.le_of_ble_eq_true rfl) dX10_pay_255 h (fun _ _ hc => s_X10_acted (d := (d + 1)) r56  hc) (fun r58 σ59 h => ?_)
              exact v_iret C dX10_pay_258 h
            · refine v_if_ne C dX10_pay_239 (tgt := 248) (by decide) h (fun h => ?_) (fun h => ?_)
              · refine v_mask [true, true, true, true, true, true] (lc' := [some (.ref (ad G 10 0 0)), some (.int a1), some (.int a2), some (.int r9), some (.int r11), some (.int r13)]) rfl ?_
                exact hk55 _ h
              · refine v_aload_n C dX10_pay_242 rfl rfl ?_
                refine v_iload_n C dX10_pay_243 rfl rfl ?_
                refine v_iconst C dX10_pay_244 ki_2 ?_
                refine cVv C 10 0 0 (av := [.int a1, .int (2 : Int32)]) si_X10_ends lk_X10_100 (ok10) rfl rfl rfl rfl (st := []) rfl (Nat.le_of_ble_eq_true rfl) dX10_pay_245 h (fun _ hc => s_X10_ends (d := (d + 1)) a1 (2 : Int32)  hc) (fun σ61 h => ?_)
                refine v_mask [true, true, true, true, true, true] (lc' := [some (.ref (ad G 10 0 0)), some (.int a1), some (.int a2), some (.int r9), some (.int r11), some (.int r13)]) rfl ?_
                exact hk55 _ h
          · refine v_if_ne C dX10_pay_208 (tgt := 215) (by decide) h (fun h => ?_) (fun h => ?_)
            · refine v_aload_n C dX10_pay_215 rfl rfl ?_
              refine v_iload_n C dX10_pay_216 rfl rfl ?_
              refine v_bipush C dX10_pay_217 kb_8 ?_
              refine cVi C 10 0 0 (av := [.int a1, .int (8 : Int32)]) si_X10_of lk_X10_42 (ok10) rfl rfl rfl rfl (st := [.int (8 : Int32), .int a1, .ref (ad G 10 0 0)]) rfl (Nat.le_of_ble_eq_true rfl) dX10_pay_219 h (fun _ _ hc => s_X10_of (d := (d + 2)) a1 (8 : Int32)  hc) (fun r62 σ63 h => ?_)
              refine v_mask [true, true, true, true, true, true] (lc' := [some (.ref (ad G 10 0 0)), some (.int a1), some (.int a2), some (.int r9), some (.int r11), some (.int r13)]) rfl ?_
              exact hk47 _ _ h
            · refine v_iconst C dX10_pay_211 ki_0 ?_
              refine v_goto C dX10_pay_212 (tgt := 222) (by decide) ?_
              refine v_mask [true, true, true, true, true, true] (lc' := [some (.ref (ad G 10 0 0)), some (.int a1), some (.int a2), some (.int r9), some (.int r11), some (.int r13)]) rfl ?_
              exact hk47 _ _ h
        · refine v_icmp_le C dX10_pay_169 (tgt := 185) (by decide) h (fun h => ?_) (fun h => ?_)
          · refine v_iconst C dX10_pay_185 ki_0 ?_
            refine v_mask [true, true, true, true, true, true] (lc' := [some (.ref (ad G 10 0 0)), some (.int a1), some (.int a2), some (.int r9), some (.int r11), some (.int r13)]) rfl ?_
            exact hk38 _ _ h
          · refine v_aload_n C dX10_pay_172 rfl rfl ?_
            refine v_iload_n C dX10_pay_173 rfl rfl ?_
            refine v_bipush C dX10_pay_174 kb_7 ?_
            refine cVi C 10 0 0 (av := [.int a1, .int (7 : Int32)]) si_X10_of lk_X10_42 (ok10) rfl rfl rfl rfl (st := [.int (7 : Int32), .int a1, .ref (ad G 10 0 0)]) rfl (Nat.le_of_ble_eq_true rfl) dX10_pay_176 h (fun _ _ hc => s_X10_of (d := (d + 2)) a1 (7 : Int32)  hc) (fun r64 σ65 h => ?_)
            refine v_iload C dX10_pay_179 rfl ?_
            refine v_isub C dX10_pay_181 ?_
            refine v_goto C dX10_pay_182 (tgt := 186) (by decide) ?_
            refine v_mask [true, true, true, true, true, true] (lc' := [some (.ref (ad G 10 0 0)), some (.int a1), some (.int a2), some (.int r9), some (.int r11), some (.int r13)]) rfl ?_
            exact hk38 _ _ h
      · refine v_bipush C dX10_pay_36 kb_m4 ?_
        exact v_iret C dX10_pay_38 h
    · refine v_bipush C dX10_pay_24 kb_m2 ?_
      exact v_iret C dX10_pay_26 h
  · refine v_iconst C dX10_pay_12 ki_m1 ?_
    exact v_iret C dX10_pay_13 h

def dc_X10_cure (a1 : Int32) (a2 : Int32) (σ : Sto) : Option (Int32 × Sto) :=
  (bv (dc_X10_aside  σ) fun σ2 => (bd (dc_X10_isLoan a1 σ2) fun r3 σ4 => (if r3 = 0 then some ((-1 : Int32), σ4) else (bd (dc_X10_in a2 (1 : Int32) (36 : Int32) σ4) fun r5 σ6 => (if r5 = 0 then some ((-2 : Int32), σ6) else (bd (dc_X10_runs a1 σ6) fun r7 σ8 => (if r7 = 0 then some ((-4 : Int32), σ8) else (bd (dc_X10_of a1 (8 : Int32) σ8) fun r9 σ10 => (if r9 = 0 then some ((-4 : Int32), σ10) else (bd (dc_X10_of a1 (6 : Int32) σ10) fun r11 σ12 => (if r11 ≤ 0 then (bv (dc_X10_be a1 (7 : Int32) (0 : Int32) σ12) fun σ14 => (bv (dc_X10_be a1 (8 : Int32) (0 : Int32) σ14) fun σ16 => (bd (dc_X10_of a1 (4 : Int32) σ16) fun r17 σ18 => (bd (dc_X10_upwards r17 a2 σ18) fun r19 σ20 => (bv (dc_X10_be a1 (5 : Int32) r19 σ20) fun σ22 => (bd (dc_X10_of a1 (5 : Int32) σ22) fun r23 σ24 => (bd (dc_X10_acted r23 σ24) fun r25 σ26 => some (r25, σ26)))))))) else some ((-4 : Int32), σ12))))))))))))
set_option maxRecDepth 20000 in
set_option maxHeartbeats 4000000 in
theorem s_X10_cure {G : Gm} {d : Nat} (a1 : Int32) (a2 : Int32) {σ τ : Sto} {r : Int32} (h : dc_X10_cure a1 a2 σ = some (r, τ)) : Cl G (d + 2) m_X10_cure [.ref (ad G 10 0 0), .int a1, .int a2] σ (some (.int r)) τ := by
  unfold dc_X10_cure at h
  refine Cl.mk (cc := cX10_cure) (own := RX10) (nL := 3) (ret := (some .int)) rfl rfl rfl rfl (by decide +kernel) (catA rfl) (Nat.le_of_ble_eq_true rfl) (fun X C => ?_)
  show V X G 0 0 (QE X G (some (.int r)) τ) σ 0 [some (.ref (ad G 10 0 0)), some (.int a1), some (.int a2)] []
  refine v_aload_n C dX10_cure_0 rfl rfl ?_
  refine cVv C 10 0 0 (av := []) si_X10_aside lk_X10_58 (ok10) rfl rfl rfl rfl (st := []) rfl (Nat.le_of_ble_eq_true rfl) dX10_cure_1 h (fun _ hc => s_X10_aside (d := (d + 1))   hc) (fun σ2 h => ?_)
  refine v_aload_n C dX10_cure_4 rfl rfl ?_
  refine v_iload_n C dX10_cure_5 rfl rfl ?_
  refine cVi C 10 0 0 (av := [.int a1]) si_X10_isLoan lk_X10_84 (ok10) rfl rfl rfl rfl (st := []) rfl (Nat.le_of_ble_eq_true rfl) dX10_cure_6 h (fun _ _ hc => s_X10_isLoan (d := d) a1  hc) (fun r3 σ4 h => ?_)
  refine v_if_ne C dX10_cure_9 (tgt := 14) (by decide) h (fun h => ?_) (fun h => ?_)
  · refine v_iload_n C dX10_cure_14 rfl rfl ?_
    refine v_iconst C dX10_cure_15 ki_1 ?_
    refine v_bipush C dX10_cure_16 kb_36 ?_
    refine cSi C (av := [.int a2, .int (1 : Int32), .int (36 : Int32)]) si_X10_in lk_X10_38 rfl rfl (st := []) rfl (Nat.le_of_ble_eq_true rfl) dX10_cure_18 h (fun _ _ hc => s_X10_in (d := (d + 1)) a2 (1 : Int32) (36 : Int32)  hc) (fun r5 σ6 h => ?_)
    refine v_if_ne C dX10_cure_21 (tgt := 27) (by decide) h (fun h => ?_) (fun h => ?_)
    · refine v_aload_n C dX10_cure_27 rfl rfl ?_
      refine v_iload_n C dX10_cure_28 rfl rfl ?_
      refine cVi C 10 0 0 (av := [.int a1]) si_X10_runs lk_X10_114 (ok10) rfl rfl rfl rfl (st := []) rfl (Nat.le_of_ble_eq_true rfl) dX10_cure_29 h (fun _ _ hc => s_X10_runs (d := d) a1  hc) (fun r7 σ8 h => ?_)
      refine v_if_eq C dX10_cure_32 (tgt := 55) (by decide) h (fun h => ?_) (fun h => ?_)
      · refine v_bipush C dX10_cure_55 kb_m4 ?_
        exact v_iret C dX10_cure_57 h
      · refine v_aload_n C dX10_cure_35 rfl rfl ?_
        refine v_iload_n C dX10_cure_36 rfl rfl ?_
        refine v_bipush C dX10_cure_37 kb_8 ?_
        refine cVi C 10 0 0 (av := [.int a1, .int (8 : Int32)]) si_X10_of lk_X10_42 (ok10) rfl rfl rfl rfl (st := []) rfl (Nat.le_of_ble_eq_true rfl) dX10_cure_39 h (fun _ _ hc => s_X10_of (d := (d + 1)) a1 (8 : Int32)  hc) (fun r9 σ10 h => ?_)
        refine v_if_eq C dX10_cure_42 (tgt := 55) (by decide) h (fun h => ?_) (fun h => ?_)
        · refine v_bipush C dX10_cure_55 kb_m4 ?_
          exact v_iret C dX10_cure_57 h
        · refine v_aload_n C dX10_cure_45 rfl rfl ?_
          refine v_iload_n C dX10_cure_46 rfl rfl ?_
          refine v_bipush C dX10_cure_47 kb_6 ?_
          refine cVi C 10 0 0 (av := [.int a1, .int (6 : Int32)]) si_X10_of lk_X10_42 (ok10) rfl rfl rfl rfl (st := []) rfl (Nat.le_of_ble_eq_true rfl) dX10_cure_49 h (fun _ _ hc => s_X10_of (d := (d + 1)) a1 (6 : Int32)  hc) (fun r11 σ12 h => ?_)
          refine v_if_le C dX10_cure_52 (tgt := 58) (by decide) h (fun h => ?_) (fun h => ?_)
          · refine v_aload_n C dX10_cure_58 rfl rfl ?_
            refine v_iload_n C dX10_cure_59 rfl rfl ?_
            refine v_bipush C dX10_cure_60 kb_7 ?_
            refine v_iconst C dX10_cure_62 ki_0 ?_
            refine cVv C 10 0 0 (av := [.int a1, .int (7 : Int32), .int (0 : Int32)]) si_X10_be lk_X10_74 (ok10) rfl rfl rfl rfl (st := []) rfl (Nat.le_of_ble_eq_true rfl) dX10_cure_63 h (fun _ hc => s_X10_be (d := (d + 1)) a1 (7 : Int32) (0 : Int32)  hc) (fun σ14 h => ?_)
            refine v_aload_n C dX10_cure_66 rfl rfl ?_
            refine v_iload_n C dX10_cure_67 rfl rfl ?_
            refine v_bipush C dX10_cure_68 kb_8 ?_
            refine v_iconst C dX10_cure_70 ki_0 ?_
            refine cVv C 10 0 0 (av := [.int a1, .int (8 : Int32), .int (0 : Int32)]) si_X10_be lk_X10_74 (ok10) rfl rfl rfl rfl (st := []) rfl (Nat.le_of_ble_eq_true rfl) dX10_cure_71 h (fun _ hc => s_X10_be (d := (d + 1)) a1 (8 : Int32) (0 : Int32)  hc) (fun σ16 h => ?_)
            refine v_aload_n C dX10_cure_74 rfl rfl ?_
            refine v_iload_n C dX10_cure_75 rfl rfl ?_
            refine v_iconst C dX10_cure_76 ki_5 ?_
            refine v_aload_n C dX10_cure_77 rfl rfl ?_
            refine v_iload_n C dX10_cure_78 rfl rfl ?_
            refine v_iconst C dX10_cure_79 ki_4 ?_
            refine cVi C 10 0 0 (av := [.int a1, .int (4 : Int32)]) si_X10_of lk_X10_42 (ok10) rfl rfl rfl rfl (st := [.int (5 : Int32), .int a1, .ref (ad G 10 0 0)]) rfl (Nat.le_of_ble_eq_true rfl) dX10_cure_80 h (fun _ _ hc => s_X10_of (d := (d + 1)) a1 (4 : Int32)  hc) (fun r17 σ18 h => ?_)
            refine v_iload_n C dX10_cure_83 rfl rfl ?_
            refine cSi C (av := [.int r17, .int a2]) si_X10_upwards lk_X10_90 rfl rfl (st := [.int (5 : Int32), .int a1, .ref (ad G 10 0 0)]) rfl (Nat.le_of_ble_eq_true rfl) dX10_cure_84 h (fun _ _ hc => s_X10_upwards (d := (d + 1)) r17 a2  hc) (fun r19 σ20 h => ?_)
            refine cVv C 10 0 0 (av := [.int a1, .int (5 : Int32), .int r19]) si_X10_be lk_X10_74 (ok10) rfl rfl rfl rfl (st := []) rfl (Nat.le_of_ble_eq_true rfl) dX10_cure_87 h (fun _ hc => s_X10_be (d := (d + 1)) a1 (5 : Int32) r19  hc) (fun σ22 h => ?_)
            refine v_aload_n C dX10_cure_90 rfl rfl ?_
            refine v_aload_n C dX10_cure_91 rfl rfl ?_
            refine v_iload_n C dX10_cure_92 rfl rfl ?_
            refine v_iconst C dX10_cure_93 ki_5 ?_
            refine cVi C 10 0 0 (av := [.int a1, .int (5 : Int32)]) si_X10_of lk_X10_42 (ok10) rfl rfl rfl rfl (st := [.ref (ad G 10 0 0)]) rfl (Nat.le_of_ble_eq_true rfl) dX10_cure_94 h (fun _ _ hc => s_X10_of (d := (d + 1)) a1 (5 : Int32)  hc) (fun r23 σ24 h => ?_)
            refine cVi C 10 0 0 (av := [.int r23]) si_X10_acted lk_X10_61 (ok10) rfl rfl rfl rfl (st := []) rfl (Nat.le_of_ble_eq_true rfl) dX10_cure_97 h (fun _ _ hc => s_X10_acted (d := d) r23  hc) (fun r25 σ26 h => ?_)
            exact v_iret C dX10_cure_100 h
          · refine v_bipush C dX10_cure_55 kb_m4 ?_
            exact v_iret C dX10_cure_57 h
    · refine v_bipush C dX10_cure_24 kb_m2 ?_
      exact v_iret C dX10_cure_26 h
  · refine v_iconst C dX10_cure_12 ki_m1 ?_
    exact v_iret C dX10_cure_13 h

def dc_X10_sell (a1 : Int32) (a2 : Int32) (σ : Sto) : Option (Int32 × Sto) :=
  (bv (dc_X10_aside  σ) fun σ2 => (bd (dc_X10_isLoan a1 σ2) fun r3 σ4 => (if r3 = 0 then some ((-1 : Int32), σ4) else (bd (dc_X10_in a2 (0 : Int32) (99999 : Int32) σ4) fun r5 σ6 => (if r5 = 0 then some ((-2 : Int32), σ6) else (bd (dc_X10_runs a1 σ6) fun r7 σ8 => (if r7 = 0 then some ((-4 : Int32), σ8) else (bd (dc_X10_of a1 (8 : Int32) σ8) fun r9 σ10 => (if (3 : Int32) ≤ r9 then (if inb (4 : Int32) 564 then (bd (dc_X10_payPrincipal a1 (0 : Int32) a2 σ10) fun r11 σ12 => (bd (dc_X10_payPrincipal a1 (1 : Int32) r11 σ12) fun r13 σ14 => (if inb (4 : Int32) 564 then (if inb (4 : Int32) 564 then (bd (dc_X10_payPrincipal a1 (0 : Int32) ((up σ14 304 0 (4 : Int32).toNatClampNeg ((σ10.1 304 0 (4 : Int32).toNatClampNeg) + r13)).1 304 0 (4 : Int32).toNatClampNeg) (up σ14 304 0 (4 : Int32).toNatClampNeg ((σ10.1 304 0 (4 : Int32).toNatClampNeg) + r13))) fun r15 σ16 => (if inb (4 : Int32) 564 then wh2 (fun (rec17 : Int32 → Int32 → Sto → Option (Int32 × Sto)) (x19 : Int32) (x20 : Int32) (σ18 : Sto) => (if inb (3 : Int32) 564 then (if (σ18.1 304 0 (3 : Int32).toNatClampNeg) ≤ x20 then (bv (dc_X10_be a1 (4 : Int32) (0 : Int32) σ18) fun σ22 => (bv (dc_X10_be a1 (6 : Int32) (0 : Int32) σ22) fun σ24 => (bv (dc_X10_be a1 (7 : Int32) (0 : Int32) σ24) fun σ26 => (bv (dc_X10_ends a1 (3 : Int32) σ26) fun σ28 => (bd (dc_X10_acted x19 σ28) fun r29 σ30 => some (r29, σ30)))))) else (bd (dc_X10_ofNote x20 (1 : Int32) σ18) fun r31 σ32 => (if r31 = a1 then (bd (dc_X10_ofNote x20 (3 : Int32) σ32) fun r33 σ34 => (bv (dc_X10_more x20 (6 : Int32) r33 σ34) fun σ36 => (bv (dc_X10_more x20 (3 : Int32) (-r33) σ36) fun σ38 => (bd (dc_X10_ofNote x20 (0 : Int32) σ38) fun r39 σ40 => (if inb (((10 : Int32) + ((3 : Int32) * r39)) + (2 : Int32)) 564 then (if inb (((10 : Int32) + ((3 : Int32) * r39)) + (2 : Int32)) 564 then rec17 (x19 + r33) (x20 + 1) (up σ40 304 0 (((10 : Int32) + ((3 : Int32) * r39)) + (2 : Int32)).toNatClampNeg ((σ40.1 304 0 (((10 : Int32) + ((3 : Int32) * r39)) + (2 : Int32)).toNatClampNeg) + r33)) else none) else none))))) else rec17 x19 (x20 + 1) σ32))) else none)) FU (0 : Int32) (0 : Int32) (up σ16 304 0 (4 : Int32).toNatClampNeg r15) else none)) else none) else none))) else none) else some ((-4 : Int32), σ10))))))))))
set_option maxRecDepth 20000 in
set_option maxHeartbeats 4000000 in
theorem s_X10_sell {G : Gm} {d : Nat} (a1 : Int32) (a2 : Int32) {σ τ : Sto} {r : Int32} (h : dc_X10_sell a1 a2 σ = some (r, τ)) : Cl G (d + 3) m_X10_sell [.ref (ad G 10 0 0), .int a1, .int a2] σ (some (.int r)) τ := by
  unfold dc_X10_sell at h
  refine Cl.mk (cc := cX10_sell) (own := RX10) (nL := 6) (ret := (some .int)) rfl rfl rfl rfl (by decide +kernel) (catA rfl) (Nat.le_of_ble_eq_true rfl) (fun X C => ?_)
  show V X G 0 0 (QE X G (some (.int r)) τ) σ 0 [some (.ref (ad G 10 0 0)), some (.int a1), some (.int a2), none, none, none] []
  refine v_aload_n C dX10_sell_0 rfl rfl ?_
  refine cVv C 10 0 0 (av := []) si_X10_aside lk_X10_58 (ok10) rfl rfl rfl rfl (st := []) rfl (Nat.le_of_ble_eq_true rfl) dX10_sell_1 h (fun _ hc => s_X10_aside (d := (d + 2))   hc) (fun σ2 h => ?_)
  refine v_aload_n C dX10_sell_4 rfl rfl ?_
  refine v_iload_n C dX10_sell_5 rfl rfl ?_
  refine cVi C 10 0 0 (av := [.int a1]) si_X10_isLoan lk_X10_84 (ok10) rfl rfl rfl rfl (st := []) rfl (Nat.le_of_ble_eq_true rfl) dX10_sell_6 h (fun _ _ hc => s_X10_isLoan (d := (d + 1)) a1  hc) (fun r3 σ4 h => ?_)
  refine v_if_ne C dX10_sell_9 (tgt := 14) (by decide) h (fun h => ?_) (fun h => ?_)
  · refine v_iload_n C dX10_sell_14 rfl rfl ?_
    refine v_iconst C dX10_sell_15 ki_0 ?_
    refine v_ldc C dX10_sell_16 lk_X10_73 ?_
    refine cSi C (av := [.int a2, .int (0 : Int32), .int (99999 : Int32)]) si_X10_in lk_X10_38 rfl rfl (st := []) rfl (Nat.le_of_ble_eq_true rfl) dX10_sell_18 h (fun _ _ hc => s_X10_in (d := (d + 2)) a2 (0 : Int32) (99999 : Int32)  hc) (fun r5 σ6 h => ?_)
    refine v_if_ne C dX10_sell_21 (tgt := 27) (by decide) h (fun h => ?_) (fun h => ?_)
    · refine v_aload_n C dX10_sell_27 rfl rfl ?_
      refine v_iload_n C dX10_sell_28 rfl rfl ?_
      refine cVi C 10 0 0 (av := [.int a1]) si_X10_runs lk_X10_114 (ok10) rfl rfl rfl rfl (st := []) rfl (Nat.le_of_ble_eq_true rfl) dX10_sell_29 h (fun _ _ hc => s_X10_runs (d := (d + 1)) a1  hc) (fun r7 σ8 h => ?_)
      refine v_if_eq C dX10_sell_32 (tgt := 46) (by decide) h (fun h => ?_) (fun h => ?_)
      · refine v_bipush C dX10_sell_46 kb_m4 ?_
        exact v_iret C dX10_sell_48 h
      · refine v_aload_n C dX10_sell_35 rfl rfl ?_
        refine v_iload_n C dX10_sell_36 rfl rfl ?_
        refine v_bipush C dX10_sell_37 kb_8 ?_
        refine cVi C 10 0 0 (av := [.int a1, .int (8 : Int32)]) si_X10_of lk_X10_42 (ok10) rfl rfl rfl rfl (st := []) rfl (Nat.le_of_ble_eq_true rfl) dX10_sell_39 h (fun _ _ hc => s_X10_of (d := (d + 2)) a1 (8 : Int32)  hc) (fun r9 σ10 h => ?_)
        refine v_iconst C dX10_sell_42 ki_3 ?_
        refine v_icmp_ge C dX10_sell_43 (tgt := 49) (by decide) h (fun h => ?_) (fun h => ?_)
        · refine v_aload_n C dX10_sell_49 rfl rfl ?_
          refine gf_X10_13 C dX10_sell_50 ?_
          refine v_iconst C dX10_sell_53 ki_4 ?_
          refine v_dup2 C dX10_sell_54 rfl rfl ?_
          refine ld_19 C dX10_sell_55 h (fun h => ?_)
          refine v_aload_n C dX10_sell_56 rfl rfl ?_
          refine v_iload_n C dX10_sell_57 rfl rfl ?_
          refine v_iconst C dX10_sell_58 ki_1 ?_
          refine v_aload_n C dX10_sell_59 rfl rfl ?_
          refine v_iload_n C dX10_sell_60 rfl rfl ?_
          refine v_iconst C dX10_sell_61 ki_0 ?_
          refine v_iload_n C dX10_sell_62 rfl rfl ?_
          refine cVi C 10 0 0 (av := [.int a1, .int (0 : Int32), .int a2]) si_X10_payPrincipal lk_X10_134 (ok10) rfl rfl rfl rfl (st := [.int (1 : Int32), .int a1, .ref (ad G 10 0 0), .int (σ10.1 304 0 (4 : Int32).toNatClampNeg), .int (4 : Int32), .ref (ad G 19 0 0)]) rfl (Nat.le_of_ble_eq_true rfl) dX10_sell_63 h (fun _ _ hc => s_X10_payPrincipal (d := d) a1 (0 : Int32) a2  hc) (fun r11 σ12 h => ?_)
          refine cVi C 10 0 0 (av := [.int a1, .int (1 : Int32), .int r11]) si_X10_payPrincipal lk_X10_134 (ok10) rfl rfl rfl rfl (st := [.int (σ10.1 304 0 (4 : Int32).toNatClampNeg), .int (4 : Int32), .ref (ad G 19 0 0)]) rfl (Nat.le_of_ble_eq_true rfl) dX10_sell_66 h (fun _ _ hc => s_X10_payPrincipal (d := d) a1 (1 : Int32) r11  hc) (fun r13 σ14 h => ?_)
          refine v_iadd C dX10_sell_69 ?_
          refine as_19 C dX10_sell_70 h (fun h => ?_)
          refine v_aload_n C dX10_sell_71 rfl rfl ?_
          refine gf_X10_13 C dX10_sell_72 ?_
          refine v_iconst C dX10_sell_75 ki_4 ?_
          refine v_aload_n C dX10_sell_76 rfl rfl ?_
          refine v_iload_n C dX10_sell_77 rfl rfl ?_
          refine v_iconst C dX10_sell_78 ki_0 ?_
          refine v_aload_n C dX10_sell_79 rfl rfl ?_
          refine gf_X10_13 C dX10_sell_80 ?_
          refine v_iconst C dX10_sell_83 ki_4 ?_
          refine ld_19 C dX10_sell_84 h (fun h => ?_)
          refine cVi C 10 0 0 (av := [.int a1, .int (0 : Int32), .int ((up σ14 304 0 (4 : Int32).toNatClampNeg ((σ10.1 304 0 (4 : Int32).toNatClampNeg) + r13)).1 304 0 (4 : Int32).toNatClampNeg)]) si_X10_payPrincipal lk_X10_134 (ok10) rfl rfl rfl rfl (st := [.int (4 : Int32), .ref (ad G 19 0 0)]) rfl (Nat.le_of_ble_eq_true rfl) dX10_sell_85 h (fun _ _ hc => s_X10_payPrincipal (d := d) a1 (0 : Int32) ((up σ14 304 0 (4 : Int32).toNatClampNeg ((σ10.1 304 0 (4 : Int32).toNatClampNeg) + r13)).1 304 0 (4 : Int32).toNatClampNeg)  hc) (fun r15 σ16 h => ?_)
          refine as_19 C dX10_sell_88 h (fun h => ?_)
          refine v_iconst C dX10_sell_89 ki_0 ?_
          refine v_istore_n C dX10_sell_90 rfl (Nat.le_of_ble_eq_true rfl) (lc1 := [some (.ref (ad G 10 0 0)), some (.int a1), some (.int a2), some (.int (0 : Int32)), none, none]) rfl ?_
          refine v_iconst C dX10_sell_91 ki_0 ?_
          refine v_istore C dX10_sell_92 (Nat.le_of_ble_eq_true rfl) (lc1 := [some (.ref (ad G 10 0 0)), some (.int a1), some (.int a2), some (.int (0 : Int32)), some (.int (0 : Int32)), none]) rfl ?_
          refine v_loop2 (fun x19 x20 σ18 => V X G 0 0 (QE X G (some (.int r)) τ) σ18 94 [some (.ref (ad G 10 0 0)), some (.int a1), some (.int a2), some (.int x19), some (.int x20), none] []) (fun rec17 hrec17 x19 x20 σ18 h => ?_) h
          refine v_iload C dX10_sell_94 rfl ?_
          refine v_aload_n C dX10_sell_96 rfl rfl ?_
          refine gf_X10_13 C dX10_sell_97 ?_
          refine v_iconst C dX10_sell_100 ki_3 ?_
          refine ld_19 C dX10_sell_101 h (fun h => ?_)
          refine v_icmp_ge C dX10_sell_102 (tgt := 180) (by decide) h (fun h => ?_) (fun h => ?_)
          · refine v_aload_n C dX10_sell_180 rfl rfl ?_
            refine v_iload_n C dX10_sell_181 rfl rfl ?_
            refine v_iconst C dX10_sell_182 ki_4 ?_
            refine v_iconst C dX10_sell_183 ki_0 ?_
            refine cVv C 10 0 0 (av := [.int a1, .int (4 : Int32), .int (0 : Int32)]) si_X10_be lk_X10_74 (ok10) rfl rfl rfl rfl (st := []) rfl (Nat.le_of_ble_eq_true rfl) dX10_sell_184 h (fun _ hc => s_X10_be (d := (d + 2)) a1 (4 : Int32) (0 : Int32)  hc) (fun σ22 h => ?_)
            refine v_aload_n C dX10_sell_187 rfl rfl ?_
            refine v_iload_n C dX10_sell_188 rfl rfl ?_
            refine v_bipush C dX10_sell_189 kb_6 ?_
            refine v_iconst C dX10_sell_191 ki_0 ?_
            refine cVv C 10 0 0 (av := [.int a1, .int (6 : Int32), .int (0 : Int32)]) si_X10_be lk_X10_74 (ok10) rfl rfl rfl rfl (st := []) rfl (Nat.le_of_ble_eq_true rfl) dX10_sell_192 h (fun _ hc => s_X10_be (d := (d + 2)) a1 (6 : Int32) (0 : Int32)  hc) (fun σ24 h => ?_)
            refine v_aload_n C dX10_sell_195 rfl rfl ?_
            refine v_iload_n C dX10_sell_196 rfl rfl ?_
            refine v_bipush C dX10_sell_197 kb_7 ?_
            refine v_iconst C dX10_sell_199 ki_0 ?_
            refine cVv C 10 0 0 (av := [.int a1, .int (7 : Int32), .int (0 : Int32)]) si_X10_be lk_X10_74 (ok10) rfl rfl rfl rfl (st := []) rfl (Nat.le_of_ble_eq_true rfl) dX10_sell_200 h (fun _ hc => s_X10_be (d := (d + 2)) a1 (7 : Int32) (0 : Int32)  hc) (fun σ26 h => ?_)
            refine v_aload_n C dX10_sell_203 rfl rfl ?_
            refine v_iload_n C dX10_sell_204 rfl rfl ?_
            refine v_iconst C dX10_sell_205 ki_3 ?_
            refine cVv C 10 0 0 (av := [.int a1, .int (3 : Int32)]) si_X10_ends lk_X10_100 (ok10) rfl rfl rfl rfl (st := []) rfl (Nat.le_of_ble_eq_true rfl) dX10_sell_206 h (fun _ hc => s_X10_ends (d := (d + 1)) a1 (3 : Int32)  hc) (fun σ28 h => ?_)
            refine v_aload_n C dX10_sell_209 rfl rfl ?_
            refine v_iload_n C dX10_sell_210 rfl rfl ?_
            refine cVi C 10 0 0 (av := [.int x19]) si_X10_acted lk_X10_61 (ok10) rfl rfl rfl rfl (st := []) rfl (Nat.le_of_ble_eq_true rfl) dX10_sell_211 h (fun _ _ hc => s_X10_acted (d := (d + 1)) x19  hc) (fun r29 σ30 h => ?_)
            exact v_iret C dX10_sell_214 h
          · refine v_aload_n C dX10_sell_105 rfl rfl ?_
            refine v_iload C dX10_sell_106 rfl ?_
            refine v_iconst C dX10_sell_108 ki_1 ?_
            refine cVi C 10 0 0 (av := [.int x20, .int (1 : Int32)]) si_X10_ofNote lk_X10_78 (ok10) rfl rfl rfl rfl (st := []) rfl (Nat.le_of_ble_eq_true rfl) dX10_sell_109 h (fun _ _ hc => s_X10_ofNote (d := (d + 2)) x20 (1 : Int32)  hc) (fun r31 σ32 h => ?_)
            refine v_iload_n C dX10_sell_112 rfl rfl ?_
            refine v_icmp_ne C dX10_sell_113 (tgt := 174) (by decide) h (fun h => ?_) (fun h => ?_)
            · refine v_iinc C dX10_sell_174 rfl (kc_1 _) (lc1 := [some (.ref (ad G 10 0 0)), some (.int a1), some (.int a2), some (.int x19), some (.int (x20 + 1)), none]) rfl ?_
              refine v_goto C dX10_sell_177 (tgt := 94) (by decide) ?_
              refine v_mask [true, true, true, true, true, false] (lc' := [some (.ref (ad G 10 0 0)), some (.int a1), some (.int a2), some (.int x19), some (.int (x20 + 1)), none]) rfl ?_
              exact hrec17 _ _ _ h
            · refine v_aload_n C dX10_sell_116 rfl rfl ?_
              refine v_iload C dX10_sell_117 rfl ?_
              refine v_iconst C dX10_sell_119 ki_3 ?_
              refine cVi C 10 0 0 (av := [.int x20, .int (3 : Int32)]) si_X10_ofNote lk_X10_78 (ok10) rfl rfl rfl rfl (st := []) rfl (Nat.le_of_ble_eq_true rfl) dX10_sell_120 h (fun _ _ hc => s_X10_ofNote (d := (d + 2)) x20 (3 : Int32)  hc) (fun r33 σ34 h => ?_)
              refine v_istore C dX10_sell_123 (Nat.le_of_ble_eq_true rfl) (lc1 := [some (.ref (ad G 10 0 0)), some (.int a1), some (.int a2), some (.int x19), some (.int x20), some (.int r33)]) rfl ?_
              refine v_aload_n C dX10_sell_125 rfl rfl ?_
              refine v_iload C dX10_sell_126 rfl ?_
              refine v_bipush C dX10_sell_128 kb_6 ?_
              refine v_iload C dX10_sell_130 rfl ?_
              refine cVv C 10 0 0 (av := [.int x20, .int (6 : Int32), .int r33]) si_X10_more lk_X10_97 (ok10) rfl rfl rfl rfl (st := []) rfl (Nat.le_of_ble_eq_true rfl) dX10_sell_132 h (fun _ hc => s_X10_more (d := (d + 2)) x20 (6 : Int32) r33  hc) (fun σ36 h => ?_)
              refine v_aload_n C dX10_sell_135 rfl rfl ?_
              refine v_iload C dX10_sell_136 rfl ?_
              refine v_iconst C dX10_sell_138 ki_3 ?_
              refine v_iload C dX10_sell_139 rfl ?_
              refine v_ineg C dX10_sell_141 ?_
              refine cVv C 10 0 0 (av := [.int x20, .int (3 : Int32), .int (-r33)]) si_X10_more lk_X10_97 (ok10) rfl rfl rfl rfl (st := []) rfl (Nat.le_of_ble_eq_true rfl) dX10_sell_142 h (fun _ hc => s_X10_more (d := (d + 2)) x20 (3 : Int32) (-r33)  hc) (fun σ38 h => ?_)
              refine v_aload_n C dX10_sell_145 rfl rfl ?_
              refine gf_X10_13 C dX10_sell_146 ?_
              refine v_bipush C dX10_sell_149 kb_10 ?_
              refine v_iconst C dX10_sell_151 ki_3 ?_
              refine v_aload_n C dX10_sell_152 rfl rfl ?_
              refine v_iload C dX10_sell_153 rfl ?_
              refine v_iconst C dX10_sell_155 ki_0 ?_
              refine cVi C 10 0 0 (av := [.int x20, .int (0 : Int32)]) si_X10_ofNote lk_X10_78 (ok10) rfl rfl rfl rfl (st := [.int (3 : Int32), .int (10 : Int32), .ref (ad G 19 0 0)]) rfl (Nat.le_of_ble_eq_true rfl) dX10_sell_156 h (fun _ _ hc => s_X10_ofNote (d := (d + 2)) x20 (0 : Int32)  hc) (fun r39 σ40 h => ?_)
              refine v_imul C dX10_sell_159 ?_
              refine v_iadd C dX10_sell_160 ?_
              refine v_iconst C dX10_sell_161 ki_2 ?_
              refine v_iadd C dX10_sell_162 ?_
              refine v_dup2 C dX10_sell_163 rfl rfl ?_
              refine ld_19 C dX10_sell_164 h (fun h => ?_)
              refine v_iload C dX10_sell_165 rfl ?_
              refine v_iadd C dX10_sell_167 ?_
              refine as_19 C dX10_sell_168 h (fun h => ?_)
              refine v_iload_n C dX10_sell_169 rfl rfl ?_
              refine v_iload C dX10_sell_170 rfl ?_
              refine v_iadd C dX10_sell_172 ?_
              refine v_istore_n C dX10_sell_173 rfl (Nat.le_of_ble_eq_true rfl) (lc1 := [some (.ref (ad G 10 0 0)), some (.int a1), some (.int a2), some (.int (x19 + r33)), some (.int x20), some (.int r33)]) rfl ?_
              refine v_iinc C dX10_sell_174 rfl (kc_1 _) (lc1 := [some (.ref (ad G 10 0 0)), some (.int a1), some (.int a2), some (.int (x19 + r33)), some (.int (x20 + 1)), some (.int r33)]) rfl ?_
              refine v_goto C dX10_sell_177 (tgt := 94) (by decide) ?_
              refine v_mask [true, true, true, true, true, false] (lc' := [some (.ref (ad G 10 0 0)), some (.int a1), some (.int a2), some (.int (x19 + r33)), some (.int (x20 + 1)), none]) rfl ?_
              exact hrec17 _ _ _ h
        · refine v_bipush C dX10_sell_46 kb_m4 ?_
          exact v_iret C dX10_sell_48 h
    · refine v_bipush C dX10_sell_24 kb_m2 ?_
      exact v_iret C dX10_sell_26 h
  · refine v_iconst C dX10_sell_12 ki_m1 ?_
    exact v_iret C dX10_sell_13 h
