/-! by program (wip/p28/walk.py): L_low L_fee L_principals L_share L_repays L_areLoans -/
def dc_L_low (a0 : Int32) (a1 : Int32) (σ : Sto) : Option (Int32 × Sto) :=
  (if ¬ a1 = 0 then some ((a0 &&& (2147483647 : Int32)) - (a0 &&& (2147483647 : Int32)) / a1 * a1, σ) else none)
set_option maxRecDepth 20000 in
set_option maxHeartbeats 4000000 in
theorem s_L_low {G : Gm} {d : Nat} (a0 : Int32) (a1 : Int32) {σ τ : Sto} {r : Int32} (h : dc_L_low a0 a1 σ = some (r, τ)) : Cl G d m_L_low [.int a0, .int a1] σ (some (.int r)) τ := by
  unfold dc_L_low at h
  refine Cl.mk (cc := cL_low) (own := RL) (nL := 2) (ret := (some .int)) rfl rfl rfl rfl (by decide +kernel) (catA rfl) (Nat.le_of_ble_eq_true rfl) (fun X C => ?_)
  show V X G 0 0 (QE X G (some (.int r)) τ) σ 0 [some (.int a0), some (.int a1)] []
  refine v_iload_n C dL_low_0 rfl rfl ?_
  refine v_ldc C dL_low_1 lk_L_8 ?_
  refine v_iand C dL_low_3 ?_
  refine v_iload_n C dL_low_4 rfl rfl ?_
  refine v_irem C dL_low_5 (if_some h).1 ?_
  have h := (if_some h).2
  exact v_iret C dL_low_6 h

def dc_L_fee (a0 : Int32) (σ : Sto) : Option (Int32 × Sto) :=
  (if a0 = 0 then some ((5 : Int32), σ) else some ((10 : Int32) <<< ((a0 - (1 : Int32)) &&& 31), σ))
set_option maxRecDepth 20000 in
set_option maxHeartbeats 4000000 in
theorem s_L_fee {G : Gm} {d : Nat} (a0 : Int32) {σ τ : Sto} {r : Int32} (h : dc_L_fee a0 σ = some (r, τ)) : Cl G d m_L_fee [.int a0] σ (some (.int r)) τ := by
  unfold dc_L_fee at h
  refine Cl.mk (cc := cL_fee) (own := RL) (nL := 1) (ret := (some .int)) rfl rfl rfl rfl (by decide +kernel) (catA rfl) (Nat.le_of_ble_eq_true rfl) (fun X C => ?_)
  show V X G 0 0 (QE X G (some (.int r)) τ) σ 0 [some (.int a0)] []
  refine v_iload_n C dL_fee_0 rfl rfl ?_
  refine v_if_ne C dL_fee_1 (tgt := 8) (by decide) h (fun h => ?_) (fun h => ?_)
  · refine v_bipush C dL_fee_8 kb_10 ?_
    refine v_iload_n C dL_fee_10 rfl rfl ?_
    refine v_iconst C dL_fee_11 ki_1 ?_
    refine v_isub C dL_fee_12 ?_
    refine v_ishl C dL_fee_13 ?_
    exact v_iret C dL_fee_14 h
  · refine v_iconst C dL_fee_4 ki_5 ?_
    refine v_goto C dL_fee_5 (tgt := 14) (by decide) ?_
    exact v_iret C dL_fee_14 h

def dc_L_principals (a2 : Int32) (a3 : Int32) (σ : Sto) : Option (Int32 × Sto) :=
  wh2 (fun (rec1 : Int32 → Int32 → Sto → Option (Int32 × Sto)) (x3 : Int32) (x4 : Int32) (σ2 : Sto) => (if inb (2 : Int32) 9 then (if (σ2.1 304 0 (2 : Int32).toNatClampNeg) ≤ x4 then some (x3, σ2) else (if inb (((6 : Int32) * x4) + (1 : Int32)) 60 then (if (σ2.1 352 0 (((6 : Int32) * x4) + (1 : Int32)).toNatClampNeg) = a2 then jn ((if inb (((6 : Int32) * x4) + (3 : Int32)) 60 then rec1 (x3 + (σ2.1 352 0 (((6 : Int32) * x4) + (3 : Int32)).toNatClampNeg)) (x4 + 1) σ2 else none)) (fun k5 => (if a3 < 0 then k5  else (if inb (((6 : Int32) * x4) + (2 : Int32)) 60 then (if (σ2.1 352 0 (((6 : Int32) * x4) + (2 : Int32)).toNatClampNeg) = a3 then k5  else rec1 (x3 + (0 : Int32)) (x4 + 1) σ2) else none))) else rec1 (x3 + (0 : Int32)) (x4 + 1) σ2) else none)) else none)) FU (0 : Int32) (0 : Int32) σ
set_option maxRecDepth 20000 in
set_option maxHeartbeats 4000000 in
theorem s_L_principals {G : Gm} {d : Nat} (a2 : Int32) (a3 : Int32) {σ τ : Sto} {r : Int32} (h : dc_L_principals a2 a3 σ = some (r, τ)) : Cl G d m_L_principals [.ref (ad G 19 0 0), .ref (ad G 22 0 0), .int a2, .int a3] σ (some (.int r)) τ := by
  unfold dc_L_principals at h
  refine Cl.mk (cc := cL_principals) (own := RL) (nL := 6) (ret := (some .int)) rfl rfl rfl rfl (by decide +kernel) (catA rfl) (Nat.le_of_ble_eq_true rfl) (fun X C => ?_)
  show V X G 0 0 (QE X G (some (.int r)) τ) σ 0 [some (.ref (ad G 19 0 0)), some (.ref (ad G 22 0 0)), some (.int a2), some (.int a3), none, none] []
  refine v_iconst C dL_principals_0 ki_0 ?_
  refine v_istore C dL_principals_1 (Nat.le_of_ble_eq_true rfl) (lc1 := [some (.ref (ad G 19 0 0)), some (.ref (ad G 22 0 0)), some (.int a2), some (.int a3), some (.int (0 : Int32)), none]) rfl ?_
  refine v_iconst C dL_principals_3 ki_0 ?_
  refine v_istore C dL_principals_4 (Nat.le_of_ble_eq_true rfl) (lc1 := [some (.ref (ad G 19 0 0)), some (.ref (ad G 22 0 0)), some (.int a2), some (.int a3), some (.int (0 : Int32)), some (.int (0 : Int32))]) rfl ?_
  refine v_loop2 (fun x3 x4 σ2 => V X G 0 0 (QE X G (some (.int r)) τ) σ2 6 [some (.ref (ad G 19 0 0)), some (.ref (ad G 22 0 0)), some (.int a2), some (.int a3), some (.int x3), some (.int x4)] []) (fun rec1 hrec1 x3 x4 σ2 h => ?_) h
  refine v_iload C dL_principals_6 rfl ?_
  refine v_aload_n C dL_principals_8 rfl rfl ?_
  refine v_iconst C dL_principals_9 ki_2 ?_
  refine ld_19 C dL_principals_10 h (fun h => ?_)
  refine v_icmp_ge C dL_principals_11 (tgt := 68) (by decide) h (fun h => ?_) (fun h => ?_)
  · refine v_iload C dL_principals_68 rfl ?_
    exact v_iret C dL_principals_70 h
  · refine v_iload C dL_principals_14 rfl ?_
    refine v_aload_n C dL_principals_16 rfl rfl ?_
    refine v_bipush C dL_principals_17 kb_6 ?_
    refine v_iload C dL_principals_19 rfl ?_
    refine v_imul C dL_principals_21 ?_
    refine v_iconst C dL_principals_22 ki_1 ?_
    refine v_iadd C dL_principals_23 ?_
    refine ld_22 C dL_principals_24 h (fun h => ?_)
    refine v_iload_n C dL_principals_25 rfl rfl ?_
    refine v_icmp_ne C dL_principals_26 (tgt := 58) (by decide) h (fun h => ?_) (fun h => ?_)
    · refine v_iconst C dL_principals_58 ki_0 ?_
      refine v_iadd C dL_principals_59 ?_
      refine v_istore C dL_principals_60 (Nat.le_of_ble_eq_true rfl) (lc1 := [some (.ref (ad G 19 0 0)), some (.ref (ad G 22 0 0)), some (.int a2), some (.int a3), some (.int (x3 + (0 : Int32))), some (.int x4)]) rfl ?_
      refine v_iinc C dL_principals_62 rfl (kc_1 _) (lc1 := [some (.ref (ad G 19 0 0)), some (.ref (ad G 22 0 0)), some (.int a2), some (.int a3), some (.int (x3 + (0 : Int32))), some (.int (x4 + 1))]) rfl ?_
      refine v_goto C dL_principals_65 (tgt := 6) (by decide) ?_
      refine v_mask [true, true, true, true, true, true] (lc' := [some (.ref (ad G 19 0 0)), some (.ref (ad G 22 0 0)), some (.int a2), some (.int a3), some (.int (x3 + (0 : Int32))), some (.int (x4 + 1))]) rfl ?_
      exact hrec1 _ _ _ h
    · refine v_iload_n C dL_principals_29 rfl rfl ?_
      refine v_join (fun k => k = some (r, τ) → V X G 0 0 (QE X G (some (.int r)) τ) σ2 46 [some (.ref (ad G 19 0 0)), some (.ref (ad G 22 0 0)), some (.int a2), some (.int a3), some (.int x3), some (.int x4)] [.int x3]) h (fun h => ?_) (fun k5 hk5 h => ?_)
      · refine v_aload_n C dL_principals_46 rfl rfl ?_
        refine v_bipush C dL_principals_47 kb_6 ?_
        refine v_iload C dL_principals_49 rfl ?_
        refine v_imul C dL_principals_51 ?_
        refine v_iconst C dL_principals_52 ki_3 ?_
        refine v_iadd C dL_principals_53 ?_
        refine ld_22 C dL_principals_54 h (fun h => ?_)
        refine v_goto C dL_principals_55 (tgt := 59) (by decide) ?_
        refine v_iadd C dL_principals_59 ?_
        refine v_istore C dL_principals_60 (Nat.le_of_ble_eq_true rfl) (lc1 := [some (.ref (ad G 19 0 0)), some (.ref (ad G 22 0 0)), some (.int a2), some (.int a3), some (.int (x3 + (σ2.1 352 0 (((6 : Int32) * x4) + (3 : Int32)).toNatClampNeg))), some (.int x4)]) rfl ?_
        refine v_iinc C dL_principals_62 rfl (kc_1 _) (lc1 := [some (.ref (ad G 19 0 0)), some (.ref (ad G 22 0 0)), some (.int a2), some (.int a3), some (.int (x3 + (σ2.1 352 0 (((6 : Int32) * x4) + (3 : Int32)).toNatClampNeg))), some (.int (x4 + 1))]) rfl ?_
        refine v_goto C dL_principals_65 (tgt := 6) (by decide) ?_
        refine v_mask [true, true, true, true, true, true] (lc' := [some (.ref (ad G 19 0 0)), some (.ref (ad G 22 0 0)), some (.int a2), some (.int a3), some (.int (x3 + (σ2.1 352 0 (((6 : Int32) * x4) + (3 : Int32)).toNatClampNeg))), some (.int (x4 + 1))]) rfl ?_
        exact hrec1 _ _ _ h
      · refine v_if_lt C dL_principals_30 (tgt := 46) (by decide) h (fun h => ?_) (fun h => ?_)
        · refine v_mask [true, true, true, true, true, true] (lc' := [some (.ref (ad G 19 0 0)), some (.ref (ad G 22 0 0)), some (.int a2), some (.int a3), some (.int x3), some (.int x4)]) rfl ?_
          exact hk5 h
        · refine v_aload_n C dL_principals_33 rfl rfl ?_
          refine v_bipush C dL_principals_34 kb_6 ?_
          refine v_iload C dL_principals_36 rfl ?_
          refine v_imul C dL_principals_38 ?_
          refine v_iconst C dL_principals_39 ki_2 ?_
          refine v_iadd C dL_principals_40 ?_
          refine ld_22 C dL_principals_41 h (fun h => ?_)
          refine v_iload_n C dL_principals_42 rfl rfl ?_
          refine v_icmp_ne C dL_principals_43 (tgt := 58) (by decide) h (fun h => ?_) (fun h => ?_)
          · refine v_iconst C dL_principals_58 ki_0 ?_
            refine v_iadd C dL_principals_59 ?_
            refine v_istore C dL_principals_60 (Nat.le_of_ble_eq_true rfl) (lc1 := [some (.ref (ad G 19 0 0)), some (.ref (ad G 22 0 0)), some (.int a2), some (.int a3), some (.int (x3 + (0 : Int32))), some (.int x4)]) rfl ?_
            refine v_iinc C dL_principals_62 rfl (kc_1 _) (lc1 := [some (.ref (ad G 19 0 0)), some (.ref (ad G 22 0 0)), some (.int a2), some (.int a3), some (.int (x3 + (0 : Int32))), some (.int (x4 + 1))]) rfl ?_
            refine v_goto C dL_principals_65 (tgt := 6) (by decide) ?_
            refine v_mask [true, true, true, true, true, true] (lc' := [some (.ref (ad G 19 0 0)), some (.ref (ad G 22 0 0)), some (.int a2), some (.int a3), some (.int (x3 + (0 : Int32))), some (.int (x4 + 1))]) rfl ?_
            exact hrec1 _ _ _ h
          · refine v_mask [true, true, true, true, true, true] (lc' := [some (.ref (ad G 19 0 0)), some (.ref (ad G 22 0 0)), some (.int a2), some (.int a3), some (.int x3), some (.int x4)]) rfl ?_
            exact hk5 h

def dc_L_share (a2 : Int32) (a3 : Int32) (a4 : Int32) (σ : Sto) : Option Sto :=
  (bd (dc_L_principals a2 a3 σ) fun r1 σ2 => wh2 (fun (rec3 : Int32 → Int32 → Sto → Option Sto) (x5 : Int32) (x6 : Int32) (σ4 : Sto) => (if inb (2 : Int32) 9 then (if (σ4.1 304 0 (2 : Int32).toNatClampNeg) ≤ x6 then wh2 (fun (rec7 : Int32 → Int32 → Sto → Option Sto) (x9 : Int32) (x10 : Int32) (σ8 : Sto) => (if inb (2 : Int32) 9 then (if (σ8.1 304 0 (2 : Int32).toNatClampNeg) ≤ x10 then some σ8 else (if inb x10 10 then (if 0 ≤ (σ8.1 384 0 x10.toNatClampNeg) then (if a4 ≤ x9 then rec7 x9 (x10 + 1) σ8 else (if inb x10 10 then (if inb x10 10 then rec7 (x9 + 1) (x10 + 1) (up σ8 384 0 x10.toNatClampNeg ((σ8.1 384 0 x10.toNatClampNeg) + (1 : Int32))) else none) else none)) else (if inb x10 10 then rec7 x9 (x10 + 1) (up σ8 384 0 x10.toNatClampNeg (0 : Int32)) else none)) else none)) else none)) FU x5 (0 : Int32) σ4 else (if inb (((6 : Int32) * x6) + (1 : Int32)) 60 then jn (fun (v11 : Int32) => jn (fun (v13 : Int32) => (if inb x6 10 then (if v11 = 0 then rec3 (x5 + (0 : Int32)) (x6 + 1) (up σ4 384 0 x6.toNatClampNeg v13) else (if inb x6 10 then rec3 (x5 + ((up σ4 384 0 x6.toNatClampNeg v13).1 384 0 x6.toNatClampNeg)) (x6 + 1) (up σ4 384 0 x6.toNatClampNeg v13) else none)) else none)) (fun k14 => (if v11 = 0 then k14 (-1 : Int32) else (if inb (((6 : Int32) * x6) + (3 : Int32)) 60 then (if ¬ r1.toInt64 = 0 then k14 (((a4.toInt64 * ((σ4.1 352 0 (((6 : Int32) * x6) + (3 : Int32)).toNatClampNeg).toInt64)) / r1.toInt64).toInt32) else none) else none)))) (fun k12 => jn (k12 (0 : Int32)) (fun k15 => (if (σ4.1 352 0 (((6 : Int32) * x6) + (1 : Int32)).toNatClampNeg) = a2 then jn ((if inb (((6 : Int32) * x6) + (3 : Int32)) 60 then (if (σ4.1 352 0 (((6 : Int32) * x6) + (3 : Int32)).toNatClampNeg) ≤ 0 then k15  else k12 (1 : Int32)) else none)) (fun k16 => (if a3 < 0 then k16  else (if inb (((6 : Int32) * x6) + (2 : Int32)) 60 then (if (σ4.1 352 0 (((6 : Int32) * x6) + (2 : Int32)).toNatClampNeg) = a3 then k16  else k15 ) else none))) else k15 ))) else none)) else none)) FU (0 : Int32) (0 : Int32) σ2)
set_option maxRecDepth 20000 in
set_option maxHeartbeats 4000000 in
theorem s_L_share {G : Gm} {d : Nat} (a2 : Int32) (a3 : Int32) (a4 : Int32) {σ τ : Sto} (h : dc_L_share a2 a3 a4 σ = some τ) : Cl G (d + 1) m_L_share [.ref (ad G 19 0 0), .ref (ad G 22 0 0), .int a2, .int a3, .int a4, .ref (ad G 24 0 0)] σ none τ := by
  unfold dc_L_share at h
  refine Cl.mk (cc := cL_share) (own := RL) (nL := 10) (ret := none) rfl rfl rfl rfl (by decide +kernel) (catA rfl) (Nat.le_of_ble_eq_true rfl) (fun X C => ?_)
  show V X G 0 0 (QE X G none τ) σ 0 [some (.ref (ad G 19 0 0)), some (.ref (ad G 22 0 0)), some (.int a2), some (.int a3), some (.int a4), some (.ref (ad G 24 0 0)), none, none, none, none] []
  refine v_aload_n C dL_share_0 rfl rfl ?_
  refine v_aload_n C dL_share_1 rfl rfl ?_
  refine v_iload_n C dL_share_2 rfl rfl ?_
  refine v_iload_n C dL_share_3 rfl rfl ?_
  refine cSi C (av := [.ref (ad G 19 0 0), .ref (ad G 22 0 0), .int a2, .int a3]) si_L_principals lk_L_9 rfl rfl (st := []) rfl (Nat.le_of_ble_eq_true rfl) dL_share_4 h (fun _ _ hc => s_L_principals (d := d) a2 a3  hc) (fun r1 σ2 h => ?_)
  refine v_istore C dL_share_7 (Nat.le_of_ble_eq_true rfl) (lc1 := [some (.ref (ad G 19 0 0)), some (.ref (ad G 22 0 0)), some (.int a2), some (.int a3), some (.int a4), some (.ref (ad G 24 0 0)), some (.int r1), none, none, none]) rfl ?_
  refine v_iconst C dL_share_9 ki_0 ?_
  refine v_istore C dL_share_10 (Nat.le_of_ble_eq_true rfl) (lc1 := [some (.ref (ad G 19 0 0)), some (.ref (ad G 22 0 0)), some (.int a2), some (.int a3), some (.int a4), some (.ref (ad G 24 0 0)), some (.int r1), some (.int (0 : Int32)), none, none]) rfl ?_
  refine v_iconst C dL_share_12 ki_0 ?_
  refine v_istore C dL_share_13 (Nat.le_of_ble_eq_true rfl) (lc1 := [some (.ref (ad G 19 0 0)), some (.ref (ad G 22 0 0)), some (.int a2), some (.int a3), some (.int a4), some (.ref (ad G 24 0 0)), some (.int r1), some (.int (0 : Int32)), some (.int (0 : Int32)), none]) rfl ?_
  refine v_loop2 (fun x5 x6 σ4 => V X G 0 0 (QE X G none τ) σ4 15 [some (.ref (ad G 19 0 0)), some (.ref (ad G 22 0 0)), some (.int a2), some (.int a3), some (.int a4), some (.ref (ad G 24 0 0)), some (.int r1), some (.int x5), some (.int x6), none] []) (fun rec3 hrec3 x5 x6 σ4 h => ?_) h
  refine v_iload C dL_share_15 rfl ?_
  refine v_aload_n C dL_share_17 rfl rfl ?_
  refine v_iconst C dL_share_18 ki_2 ?_
  refine ld_19 C dL_share_19 h (fun h => ?_)
  refine v_icmp_ge C dL_share_20 (tgt := 130) (by decide) h (fun h => ?_) (fun h => ?_)
  · refine v_iconst C dL_share_130 ki_0 ?_
    refine v_istore C dL_share_131 (Nat.le_of_ble_eq_true rfl) (lc1 := [some (.ref (ad G 19 0 0)), some (.ref (ad G 22 0 0)), some (.int a2), some (.int a3), some (.int a4), some (.ref (ad G 24 0 0)), some (.int r1), some (.int x5), some (.int (0 : Int32)), none]) rfl ?_
    refine v_loop2 (fun x9 x10 σ8 => V X G 0 0 (QE X G none τ) σ8 133 [some (.ref (ad G 19 0 0)), some (.ref (ad G 22 0 0)), some (.int a2), some (.int a3), some (.int a4), some (.ref (ad G 24 0 0)), some (.int r1), some (.int x9), some (.int x10), none] []) (fun rec7 hrec7 x9 x10 σ8 h => ?_) h
    refine v_iload C dL_share_133 rfl ?_
    refine v_aload_n C dL_share_135 rfl rfl ?_
    refine v_iconst C dL_share_136 ki_2 ?_
    refine ld_19 C dL_share_137 h (fun h => ?_)
    refine v_icmp_ge C dL_share_138 (tgt := 183) (by decide) h (fun h => ?_) (fun h => ?_)
    · exact v_vret C dL_share_183 h
    · refine v_aload C dL_share_141 rfl ?_
      refine v_iload C dL_share_143 rfl ?_
      refine ld_24 C dL_share_145 h (fun h => ?_)
      refine v_if_ge C dL_share_146 (tgt := 158) (by decide) h (fun h => ?_) (fun h => ?_)
      · refine v_iload C dL_share_158 rfl ?_
        refine v_iload C dL_share_160 rfl ?_
        refine v_icmp_ge C dL_share_162 (tgt := 177) (by decide) h (fun h => ?_) (fun h => ?_)
        · refine v_iinc C dL_share_177 rfl (kc_1 _) (lc1 := [some (.ref (ad G 19 0 0)), some (.ref (ad G 22 0 0)), some (.int a2), some (.int a3), some (.int a4), some (.ref (ad G 24 0 0)), some (.int r1), some (.int x9), some (.int (x10 + 1)), none]) rfl ?_
          refine v_goto C dL_share_180 (tgt := 133) (by decide) ?_
          refine v_mask [true, true, true, true, true, true, true, true, true, false] (lc' := [some (.ref (ad G 19 0 0)), some (.ref (ad G 22 0 0)), some (.int a2), some (.int a3), some (.int a4), some (.ref (ad G 24 0 0)), some (.int r1), some (.int x9), some (.int (x10 + 1)), none]) rfl ?_
          exact hrec7 _ _ _ h
        · refine v_aload C dL_share_165 rfl ?_
          refine v_iload C dL_share_167 rfl ?_
          refine v_dup2 C dL_share_169 rfl rfl ?_
          refine ld_24 C dL_share_170 h (fun h => ?_)
          refine v_iconst C dL_share_171 ki_1 ?_
          refine v_iadd C dL_share_172 ?_
          refine as_24 C dL_share_173 h (fun h => ?_)
          refine v_iinc C dL_share_174 rfl (kc_1 _) (lc1 := [some (.ref (ad G 19 0 0)), some (.ref (ad G 22 0 0)), some (.int a2), some (.int a3), some (.int a4), some (.ref (ad G 24 0 0)), some (.int r1), some (.int (x9 + 1)), some (.int x10), none]) rfl ?_
          refine v_iinc C dL_share_177 rfl (kc_1 _) (lc1 := [some (.ref (ad G 19 0 0)), some (.ref (ad G 22 0 0)), some (.int a2), some (.int a3), some (.int a4), some (.ref (ad G 24 0 0)), some (.int r1), some (.int (x9 + 1)), some (.int (x10 + 1)), none]) rfl ?_
          refine v_goto C dL_share_180 (tgt := 133) (by decide) ?_
          refine v_mask [true, true, true, true, true, true, true, true, true, false] (lc' := [some (.ref (ad G 19 0 0)), some (.ref (ad G 22 0 0)), some (.int a2), some (.int a3), some (.int a4), some (.ref (ad G 24 0 0)), some (.int r1), some (.int (x9 + 1)), some (.int (x10 + 1)), none]) rfl ?_
          exact hrec7 _ _ _ h
      · refine v_aload C dL_share_149 rfl ?_
        refine v_iload C dL_share_151 rfl ?_
        refine v_iconst C dL_share_153 ki_0 ?_
        refine as_24 C dL_share_154 h (fun h => ?_)
        refine v_goto C dL_share_155 (tgt := 177) (by decide) ?_
        refine v_iinc C dL_share_177 rfl (kc_1 _) (lc1 := [some (.ref (ad G 19 0 0)), some (.ref (ad G 22 0 0)), some (.int a2), some (.int a3), some (.int a4), some (.ref (ad G 24 0 0)), some (.int r1), some (.int x9), some (.int (x10 + 1)), none]) rfl ?_
        refine v_goto C dL_share_180 (tgt := 133) (by decide) ?_
        refine v_mask [true, true, true, true, true, true, true, true, true, false] (lc' := [some (.ref (ad G 19 0 0)), some (.ref (ad G 22 0 0)), some (.int a2), some (.int a3), some (.int a4), some (.ref (ad G 24 0 0)), some (.int r1), some (.int x9), some (.int (x10 + 1)), none]) rfl ?_
        exact hrec7 _ _ _ h
  · refine v_aload_n C dL_share_23 rfl rfl ?_
    refine v_bipush C dL_share_24 kb_6 ?_
    refine v_iload C dL_share_26 rfl ?_
    refine v_imul C dL_share_28 ?_
    refine v_iconst C dL_share_29 ki_1 ?_
    refine v_iadd C dL_share_30 ?_
    refine ld_22 C dL_share_31 h (fun h => ?_)
    refine v_iload_n C dL_share_32 rfl rfl ?_
    refine v_join (fun k => ∀ (v11 : Int32), k v11 = some τ → V X G 0 0 (QE X G none τ) σ4 70 [some (.ref (ad G 19 0 0)), some (.ref (ad G 22 0 0)), some (.int a2), some (.int a3), some (.int a4), some (.ref (ad G 24 0 0)), some (.int r1), some (.int x5), some (.int x6), none] [.int v11]) h (fun v11 h => ?_) (fun k12 hk12 h => ?_)
    · refine v_istore C dL_share_70 (Nat.le_of_ble_eq_true rfl) (lc1 := [some (.ref (ad G 19 0 0)), some (.ref (ad G 22 0 0)), some (.int a2), some (.int a3), some (.int a4), some (.ref (ad G 24 0 0)), some (.int r1), some (.int x5), some (.int x6), some (.int v11)]) rfl ?_
      refine v_aload C dL_share_72 rfl ?_
      refine v_iload C dL_share_74 rfl ?_
      refine v_iload C dL_share_76 rfl ?_
      refine v_join (fun k => ∀ (v13 : Int32), k v13 = some τ → V X G 0 0 (QE X G none τ) σ4 104 [some (.ref (ad G 19 0 0)), some (.ref (ad G 22 0 0)), some (.int a2), some (.int a3), some (.int a4), some (.ref (ad G 24 0 0)), some (.int r1), some (.int x5), some (.int x6), some (.int v11)] [.int v13, .int x6, .ref (ad G 24 0 0)]) h (fun v13 h => ?_) (fun k14 hk14 h => ?_)
      · refine as_24 C dL_share_104 h (fun h => ?_)
        refine v_iload C dL_share_105 rfl ?_
        refine v_iload C dL_share_107 rfl ?_
        refine v_if_eq C dL_share_109 (tgt := 120) (by decide) h (fun h => ?_) (fun h => ?_)
        · refine v_iconst C dL_share_120 ki_0 ?_
          refine v_iadd C dL_share_121 ?_
          refine v_istore C dL_share_122 (Nat.le_of_ble_eq_true rfl) (lc1 := [some (.ref (ad G 19 0 0)), some (.ref (ad G 22 0 0)), some (.int a2), some (.int a3), some (.int a4), some (.ref (ad G 24 0 0)), some (.int r1), some (.int (x5 + (0 : Int32))), some (.int x6), some (.int v11)]) rfl ?_
          refine v_iinc C dL_share_124 rfl (kc_1 _) (lc1 := [some (.ref (ad G 19 0 0)), some (.ref (ad G 22 0 0)), some (.int a2), some (.int a3), some (.int a4), some (.ref (ad G 24 0 0)), some (.int r1), some (.int (x5 + (0 : Int32))), some (.int (x6 + 1)), some (.int v11)]) rfl ?_
          refine v_goto C dL_share_127 (tgt := 15) (by decide) ?_
          refine v_mask [true, true, true, true, true, true, true, true, true, false] (lc' := [some (.ref (ad G 19 0 0)), some (.ref (ad G 22 0 0)), some (.int a2), some (.int a3), some (.int a4), some (.ref (ad G 24 0 0)), some (.int r1), some (.int (x5 + (0 : Int32))), some (.int (x6 + 1)), none]) rfl ?_
          exact hrec3 _ _ _ h
        · refine v_aload C dL_share_112 rfl ?_
          refine v_iload C dL_share_114 rfl ?_
          refine ld_24 C dL_share_116 h (fun h => ?_)
          refine v_goto C dL_share_117 (tgt := 121) (by decide) ?_
          refine v_iadd C dL_share_121 ?_
          refine v_istore C dL_share_122 (Nat.le_of_ble_eq_true rfl) (lc1 := [some (.ref (ad G 19 0 0)), some (.ref (ad G 22 0 0)), some (.int a2), some (.int a3), some (.int a4), some (.ref (ad G 24 0 0)), some (.int r1), some (.int (x5 + ((up σ4 384 0 x6.toNatClampNeg v13).1 384 0 x6.toNatClampNeg))), some (.int x6), some (.int v11)]) rfl ?_
          refine v_iinc C dL_share_124 rfl (kc_1 _) (lc1 := [some (.ref (ad G 19 0 0)), some (.ref (ad G 22 0 0)), some (.int a2), some (.int a3), some (.int a4), some (.ref (ad G 24 0 0)), some (.int r1), some (.int (x5 + ((up σ4 384 0 x6.toNatClampNeg v13).1 384 0 x6.toNatClampNeg))), some (.int (x6 + 1)), some (.int v11)]) rfl ?_
          refine v_goto C dL_share_127 (tgt := 15) (by decide) ?_
          refine v_mask [true, true, true, true, true, true, true, true, true, false] (lc' := [some (.ref (ad G 19 0 0)), some (.ref (ad G 22 0 0)), some (.int a2), some (.int a3), some (.int a4), some (.ref (ad G 24 0 0)), some (.int r1), some (.int (x5 + ((up σ4 384 0 x6.toNatClampNeg v13).1 384 0 x6.toNatClampNeg))), some (.int (x6 + 1)), none]) rfl ?_
          exact hrec3 _ _ _ h
      · refine v_if_eq C dL_share_78 (tgt := 103) (by decide) h (fun h => ?_) (fun h => ?_)
        · refine v_iconst C dL_share_103 ki_m1 ?_
          refine v_mask [true, true, true, true, true, true, true, true, true, true] (lc' := [some (.ref (ad G 19 0 0)), some (.ref (ad G 22 0 0)), some (.int a2), some (.int a3), some (.int a4), some (.ref (ad G 24 0 0)), some (.int r1), some (.int x5), some (.int x6), some (.int v11)]) rfl ?_
          exact hk14 _ h
        · refine v_iload C dL_share_81 rfl ?_
          refine v_i2l C dL_share_83 ?_
          refine v_aload_n C dL_share_84 rfl rfl ?_
          refine v_bipush C dL_share_85 kb_6 ?_
          refine v_iload C dL_share_87 rfl ?_
          refine v_imul C dL_share_89 ?_
          refine v_iconst C dL_share_90 ki_3 ?_
          refine v_iadd C dL_share_91 ?_
          refine ld_22 C dL_share_92 h (fun h => ?_)
          refine v_i2l C dL_share_93 ?_
          refine v_lmul C dL_share_94 ?_
          refine v_iload C dL_share_95 rfl ?_
          refine v_i2l C dL_share_97 ?_
          refine v_ldiv C dL_share_98 (if_some h).1 ?_
          have h := (if_some h).2
          refine v_l2i C dL_share_99 ?_
          refine v_goto C dL_share_100 (tgt := 104) (by decide) ?_
          refine v_mask [true, true, true, true, true, true, true, true, true, true] (lc' := [some (.ref (ad G 19 0 0)), some (.ref (ad G 22 0 0)), some (.int a2), some (.int a3), some (.int a4), some (.ref (ad G 24 0 0)), some (.int r1), some (.int x5), some (.int x6), some (.int v11)]) rfl ?_
          exact hk14 _ h
    · refine v_join (fun k => k = some τ → V X G 0 0 (QE X G none τ) σ4 69 [some (.ref (ad G 19 0 0)), some (.ref (ad G 22 0 0)), some (.int a2), some (.int a3), some (.int a4), some (.ref (ad G 24 0 0)), some (.int r1), some (.int x5), some (.int x6), none] []) h (fun h => ?_) (fun k15 hk15 h => ?_)
      · refine v_iconst C dL_share_69 ki_0 ?_
        refine v_mask [true, true, true, true, true, true, true, true, true, false] (lc' := [some (.ref (ad G 19 0 0)), some (.ref (ad G 22 0 0)), some (.int a2), some (.int a3), some (.int a4), some (.ref (ad G 24 0 0)), some (.int r1), some (.int x5), some (.int x6), none]) rfl ?_
        exact hk12 _ h
      · refine v_icmp_ne C dL_share_33 (tgt := 69) (by decide) h (fun h => ?_) (fun h => ?_)
        · refine v_mask [true, true, true, true, true, true, true, true, true, false] (lc' := [some (.ref (ad G 19 0 0)), some (.ref (ad G 22 0 0)), some (.int a2), some (.int a3), some (.int a4), some (.ref (ad G 24 0 0)), some (.int r1), some (.int x5), some (.int x6), none]) rfl ?_
          exact hk15 h
        · refine v_iload_n C dL_share_36 rfl rfl ?_
          refine v_join (fun k => k = some τ → V X G 0 0 (QE X G none τ) σ4 53 [some (.ref (ad G 19 0 0)), some (.ref (ad G 22 0 0)), some (.int a2), some (.int a3), some (.int a4), some (.ref (ad G 24 0 0)), some (.int r1), some (.int x5), some (.int x6), none] []) h (fun h => ?_) (fun k16 hk16 h => ?_)
          · refine v_aload_n C dL_share_53 rfl rfl ?_
            refine v_bipush C dL_share_54 kb_6 ?_
            refine v_iload C dL_share_56 rfl ?_
            refine v_imul C dL_share_58 ?_
            refine v_iconst C dL_share_59 ki_3 ?_
            refine v_iadd C dL_share_60 ?_
            refine ld_22 C dL_share_61 h (fun h => ?_)
            refine v_if_le C dL_share_62 (tgt := 69) (by decide) h (fun h => ?_) (fun h => ?_)
            · refine v_mask [true, true, true, true, true, true, true, true, true, false] (lc' := [some (.ref (ad G 19 0 0)), some (.ref (ad G 22 0 0)), some (.int a2), some (.int a3), some (.int a4), some (.ref (ad G 24 0 0)), some (.int r1), some (.int x5), some (.int x6), none]) rfl ?_
              exact hk15 h
            · refine v_iconst C dL_share_65 ki_1 ?_
              refine v_goto C dL_share_66 (tgt := 70) (by decide) ?_
              refine v_mask [true, true, true, true, true, true, true, true, true, false] (lc' := [some (.ref (ad G 19 0 0)), some (.ref (ad G 22 0 0)), some (.int a2), some (.int a3), some (.int a4), some (.ref (ad G 24 0 0)), some (.int r1), some (.int x5), some (.int x6), none]) rfl ?_
              exact hk12 _ h
          · refine v_if_lt C dL_share_37 (tgt := 53) (by decide) h (fun h => ?_) (fun h => ?_)
            · refine v_mask [true, true, true, true, true, true, true, true, true, false] (lc' := [some (.ref (ad G 19 0 0)), some (.ref (ad G 22 0 0)), some (.int a2), some (.int a3), some (.int a4), some (.ref (ad G 24 0 0)), some (.int r1), some (.int x5), some (.int x6), none]) rfl ?_
              exact hk16 h
            · refine v_aload_n C dL_share_40 rfl rfl ?_
              refine v_bipush C dL_share_41 kb_6 ?_
              refine v_iload C dL_share_43 rfl ?_
              refine v_imul C dL_share_45 ?_
              refine v_iconst C dL_share_46 ki_2 ?_
              refine v_iadd C dL_share_47 ?_
              refine ld_22 C dL_share_48 h (fun h => ?_)
              refine v_iload_n C dL_share_49 rfl rfl ?_
              refine v_icmp_ne C dL_share_50 (tgt := 69) (by decide) h (fun h => ?_) (fun h => ?_)
              · refine v_mask [true, true, true, true, true, true, true, true, true, false] (lc' := [some (.ref (ad G 19 0 0)), some (.ref (ad G 22 0 0)), some (.int a2), some (.int a3), some (.int a4), some (.ref (ad G 24 0 0)), some (.int r1), some (.int x5), some (.int x6), none]) rfl ?_
                exact hk15 h
              · refine v_mask [true, true, true, true, true, true, true, true, true, false] (lc' := [some (.ref (ad G 19 0 0)), some (.ref (ad G 22 0 0)), some (.int a2), some (.int a3), some (.int a4), some (.ref (ad G 24 0 0)), some (.int r1), some (.int x5), some (.int x6), none]) rfl ?_
                exact hk16 h

def dc_L_repays (a3 : Int32) (a4 : Int32) (a5 : Int32) (σ : Sto) : Option (Int32 × Sto) :=
  (bd (dc_L_principals a3 a4 σ) fun r1 σ2 => jn (fun (v3 : Int32) => (bv (dc_L_share a3 a4 v3 σ2) fun σ6 => wh1 (fun (rec7 : Int32 → Sto → Option (Int32 × Sto)) (x9 : Int32) (σ8 : Sto) => (if inb (2 : Int32) 9 then (if (σ8.1 304 0 (2 : Int32).toNatClampNeg) ≤ x9 then some (a5 - v3, σ8) else (if inb ((6 : Int32) * x9) 60 then (if inb ((3 : Int32) * (σ8.1 352 0 ((6 : Int32) * x9).toNatClampNeg)) 9 then (if inb x9 10 then (if inb ((3 : Int32) * (σ8.1 352 0 ((6 : Int32) * x9).toNatClampNeg)) 9 then (if inb (((6 : Int32) * x9) + (3 : Int32)) 60 then (if inb x9 10 then (if inb (((6 : Int32) * x9) + (3 : Int32)) 60 then (lt (up (up σ8 320 0 ((3 : Int32) * (σ8.1 352 0 ((6 : Int32) * x9).toNatClampNeg)).toNatClampNeg ((σ8.1 320 0 ((3 : Int32) * (σ8.1 352 0 ((6 : Int32) * x9).toNatClampNeg)).toNatClampNeg) + (σ8.1 384 0 x9.toNatClampNeg))) 352 0 (((6 : Int32) * x9) + (3 : Int32)).toNatClampNeg (((up σ8 320 0 ((3 : Int32) * (σ8.1 352 0 ((6 : Int32) * x9).toNatClampNeg)).toNatClampNeg ((σ8.1 320 0 ((3 : Int32) * (σ8.1 352 0 ((6 : Int32) * x9).toNatClampNeg)).toNatClampNeg) + (σ8.1 384 0 x9.toNatClampNeg))).1 352 0 (((6 : Int32) * x9) + (3 : Int32)).toNatClampNeg) - ((up σ8 320 0 ((3 : Int32) * (σ8.1 352 0 ((6 : Int32) * x9).toNatClampNeg)).toNatClampNeg ((σ8.1 320 0 ((3 : Int32) * (σ8.1 352 0 ((6 : Int32) * x9).toNatClampNeg)).toNatClampNeg) + (σ8.1 384 0 x9.toNatClampNeg))).1 384 0 x9.toNatClampNeg))) fun σ10 => rec7 (x9 + 1) σ10) else none) else none) else none) else none) else none) else none) else none)) else none)) FU (0 : Int32) σ6)) (fun k4 => (if a5 ≤ r1 then k4 a5 else k4 r1)))
set_option maxRecDepth 20000 in
set_option maxHeartbeats 4000000 in
theorem s_L_repays {G : Gm} {d : Nat} (a3 : Int32) (a4 : Int32) (a5 : Int32) {σ τ : Sto} {r : Int32} (h : dc_L_repays a3 a4 a5 σ = some (r, τ)) : Cl G (d + 2) m_L_repays [.ref (ad G 19 0 0), .ref (ad G 20 0 0), .ref (ad G 22 0 0), .int a3, .int a4, .int a5, .ref (ad G 24 0 0)] σ (some (.int r)) τ := by
  unfold dc_L_repays at h
  refine Cl.mk (cc := cL_repays) (own := RL) (nL := 10) (ret := (some .int)) rfl rfl rfl rfl (by decide +kernel) (catA rfl) (Nat.le_of_ble_eq_true rfl) (fun X C => ?_)
  show V X G 0 0 (QE X G (some (.int r)) τ) σ 0 [some (.ref (ad G 19 0 0)), some (.ref (ad G 20 0 0)), some (.ref (ad G 22 0 0)), some (.int a3), some (.int a4), some (.int a5), some (.ref (ad G 24 0 0)), none, none, none] []
  refine v_aload_n C dL_repays_0 rfl rfl ?_
  refine v_aload_n C dL_repays_1 rfl rfl ?_
  refine v_iload_n C dL_repays_2 rfl rfl ?_
  refine v_iload C dL_repays_3 rfl ?_
  refine cSi C (av := [.ref (ad G 19 0 0), .ref (ad G 22 0 0), .int a3, .int a4]) si_L_principals lk_L_9 rfl rfl (st := []) rfl (Nat.le_of_ble_eq_true rfl) dL_repays_5 h (fun _ _ hc => s_L_principals (d := (d + 1)) a3 a4  hc) (fun r1 σ2 h => ?_)
  refine v_istore C dL_repays_8 (Nat.le_of_ble_eq_true rfl) (lc1 := [some (.ref (ad G 19 0 0)), some (.ref (ad G 20 0 0)), some (.ref (ad G 22 0 0)), some (.int a3), some (.int a4), some (.int a5), some (.ref (ad G 24 0 0)), some (.int r1), none, none]) rfl ?_
  refine v_iload C dL_repays_10 rfl ?_
  refine v_iload C dL_repays_12 rfl ?_
  refine v_join (fun k => ∀ (v3 : Int32), k v3 = some (r, τ) → V X G 0 0 (QE X G (some (.int r)) τ) σ2 24 [some (.ref (ad G 19 0 0)), some (.ref (ad G 20 0 0)), some (.ref (ad G 22 0 0)), some (.int a3), some (.int a4), some (.int a5), some (.ref (ad G 24 0 0)), some (.int r1), none, none] [.int v3]) h (fun v3 h => ?_) (fun k4 hk4 h => ?_)
  · refine v_istore C dL_repays_24 (Nat.le_of_ble_eq_true rfl) (lc1 := [some (.ref (ad G 19 0 0)), some (.ref (ad G 20 0 0)), some (.ref (ad G 22 0 0)), some (.int a3), some (.int a4), some (.int a5), some (.ref (ad G 24 0 0)), some (.int r1), some (.int v3), none]) rfl ?_
    refine v_aload_n C dL_repays_26 rfl rfl ?_
    refine v_aload_n C dL_repays_27 rfl rfl ?_
    refine v_iload_n C dL_repays_28 rfl rfl ?_
    refine v_iload C dL_repays_29 rfl ?_
    refine v_iload C dL_repays_31 rfl ?_
    refine v_aload C dL_repays_33 rfl ?_
    refine cSv C (av := [.ref (ad G 19 0 0), .ref (ad G 22 0 0), .int a3, .int a4, .int v3, .ref (ad G 24 0 0)]) si_L_share lk_L_15 rfl rfl (st := []) rfl (Nat.le_of_ble_eq_true rfl) dL_repays_35 h (fun _ hc => s_L_share (d := d) a3 a4 v3  hc) (fun σ6 h => ?_)
    refine v_iconst C dL_repays_38 ki_0 ?_
    refine v_istore C dL_repays_39 (Nat.le_of_ble_eq_true rfl) (lc1 := [some (.ref (ad G 19 0 0)), some (.ref (ad G 20 0 0)), some (.ref (ad G 22 0 0)), some (.int a3), some (.int a4), some (.int a5), some (.ref (ad G 24 0 0)), some (.int r1), some (.int v3), some (.int (0 : Int32))]) rfl ?_
    refine v_loop1 (fun x9 σ8 => V X G 0 0 (QE X G (some (.int r)) τ) σ8 41 [some (.ref (ad G 19 0 0)), some (.ref (ad G 20 0 0)), some (.ref (ad G 22 0 0)), some (.int a3), some (.int a4), some (.int a5), some (.ref (ad G 24 0 0)), some (.int r1), some (.int v3), some (.int x9)] []) (fun rec7 hrec7 x9 σ8 h => ?_) h
    refine v_iload C dL_repays_41 rfl ?_
    refine v_aload_n C dL_repays_43 rfl rfl ?_
    refine v_iconst C dL_repays_44 ki_2 ?_
    refine ld_19 C dL_repays_45 h (fun h => ?_)
    refine v_icmp_ge C dL_repays_46 (tgt := 91) (by decide) h (fun h => ?_) (fun h => ?_)
    · refine v_iload C dL_repays_91 rfl ?_
      refine v_iload C dL_repays_93 rfl ?_
      refine v_isub C dL_repays_95 ?_
      exact v_iret C dL_repays_96 h
    · refine v_aload_n C dL_repays_49 rfl rfl ?_
      refine v_iconst C dL_repays_50 ki_3 ?_
      refine v_aload_n C dL_repays_51 rfl rfl ?_
      refine v_bipush C dL_repays_52 kb_6 ?_
      refine v_iload C dL_repays_54 rfl ?_
      refine v_imul C dL_repays_56 ?_
      refine ld_22 C dL_repays_57 h (fun h => ?_)
      refine v_imul C dL_repays_58 ?_
      refine v_dup2 C dL_repays_59 rfl rfl ?_
      refine ld_20 C dL_repays_60 h (fun h => ?_)
      refine v_aload C dL_repays_61 rfl ?_
      refine v_iload C dL_repays_63 rfl ?_
      refine ld_24 C dL_repays_65 h (fun h => ?_)
      refine v_iadd C dL_repays_66 ?_
      refine as_20 C dL_repays_67 h (fun h => ?_)
      refine v_aload_n C dL_repays_68 rfl rfl ?_
      refine v_bipush C dL_repays_69 kb_6 ?_
      refine v_iload C dL_repays_71 rfl ?_
      refine v_imul C dL_repays_73 ?_
      refine v_iconst C dL_repays_74 ki_3 ?_
      refine v_iadd C dL_repays_75 ?_
      refine v_dup2 C dL_repays_76 rfl rfl ?_
      refine ld_22 C dL_repays_77 h (fun h => ?_)
      refine v_aload C dL_repays_78 rfl ?_
      refine v_iload C dL_repays_80 rfl ?_
      refine ld_24 C dL_repays_82 h (fun h => ?_)
      refine v_isub C dL_repays_83 ?_
      refine as_22 C dL_repays_84 h (fun h => ?_)
      refine v_lt h (fun σ10 h => ?_)
      refine v_iinc C dL_repays_85 rfl (kc_1 _) (lc1 := [some (.ref (ad G 19 0 0)), some (.ref (ad G 20 0 0)), some (.ref (ad G 22 0 0)), some (.int a3), some (.int a4), some (.int a5), some (.ref (ad G 24 0 0)), some (.int r1), some (.int v3), some (.int (x9 + 1))]) rfl ?_
      refine v_goto C dL_repays_88 (tgt := 41) (by decide) ?_
      refine v_mask [true, true, true, true, true, true, true, true, true, true] (lc' := [some (.ref (ad G 19 0 0)), some (.ref (ad G 20 0 0)), some (.ref (ad G 22 0 0)), some (.int a3), some (.int a4), some (.int a5), some (.ref (ad G 24 0 0)), some (.int r1), some (.int v3), some (.int (x9 + 1))]) rfl ?_
      exact hrec7 _ _ h
  · refine v_icmp_le C dL_repays_14 (tgt := 22) (by decide) h (fun h => ?_) (fun h => ?_)
    · refine v_iload C dL_repays_22 rfl ?_
      refine v_mask [true, true, true, true, true, true, true, true, false, false] (lc' := [some (.ref (ad G 19 0 0)), some (.ref (ad G 20 0 0)), some (.ref (ad G 22 0 0)), some (.int a3), some (.int a4), some (.int a5), some (.ref (ad G 24 0 0)), some (.int r1), none, none]) rfl ?_
      exact hk4 _ h
    · refine v_iload C dL_repays_17 rfl ?_
      refine v_goto C dL_repays_19 (tgt := 24) (by decide) ?_
      refine v_mask [true, true, true, true, true, true, true, true, false, false] (lc' := [some (.ref (ad G 19 0 0)), some (.ref (ad G 20 0 0)), some (.ref (ad G 22 0 0)), some (.int a3), some (.int a4), some (.int a5), some (.ref (ad G 24 0 0)), some (.int r1), none, none]) rfl ?_
      exact hk4 _ h

def dc_L_areLoans  (σ : Sto) : Option (Int32 × Sto) :=
  wh5 (fun (rec1 : Int32 → Int32 → Int32 → Int32 → Int32 → Sto → Option (Int32 × Sto)) (x3 : Int32) (x4 : Int32) (x5 : Int32) (x6 : Int32) (x7 : Int32) (σ2 : Sto) => (if inb (1 : Int32) 9 then (if (σ2.1 304 0 (1 : Int32).toNatClampNeg) ≤ x7 then (bd (dc_X9_count (0 : Int32) σ2) fun r8 σ9 => (if inb (0 : Int32) 9 then (if r8 = (σ9.1 304 0 (0 : Int32).toNatClampNeg) then (bd (dc_X9_count (2 : Int32) σ9) fun r10 σ11 => (if inb (1 : Int32) 9 then (if r10 = (σ11.1 304 0 (1 : Int32).toNatClampNeg) then (bd (dc_X9_count (8 : Int32) σ11) fun r12 σ13 => (if inb (2 : Int32) 9 then (if r12 = (σ13.1 304 0 (2 : Int32).toNatClampNeg) then (bd (dc_X9_count (9 : Int32) σ13) fun r14 σ15 => (if inb (3 : Int32) 9 then (if r14 = (σ15.1 304 0 (3 : Int32).toNatClampNeg) then (bd (dc_X9_count (10 : Int32) σ15) fun r16 σ17 => (if inb (4 : Int32) 9 then (if r16 = (σ17.1 304 0 (4 : Int32).toNatClampNeg) then (bd (dc_X9_count (11 : Int32) σ17) fun r18 σ19 => (if r18 = x6 then (bd (dc_X9_count (12 : Int32) σ19) fun r20 σ21 => (if r20 = x3 then (bd (dc_X9_count (14 : Int32) σ21) fun r22 σ23 => (if r22 = x4 then (bd (dc_X9_count (15 : Int32) σ23) fun r24 σ25 => (if r24 = x5 then (bd (dc_X9_count (18 : Int32) σ25) fun r26 σ27 => (if r26 = (-2 : Int32) then some ((1 : Int32), σ27) else some ((0 : Int32), σ27))) else some ((0 : Int32), σ25))) else some ((0 : Int32), σ23))) else some ((0 : Int32), σ21))) else some ((0 : Int32), σ19))) else some ((0 : Int32), σ17)) else none)) else some ((0 : Int32), σ15)) else none)) else some ((0 : Int32), σ13)) else none)) else some ((0 : Int32), σ11)) else none)) else some ((0 : Int32), σ9)) else none)) else (if inb (((11 : Int32) * x7) + (3 : Int32)) 44 then jn (fun (v28 : Int32) => (if inb (((11 : Int32) * x7) + (3 : Int32)) 44 then jn (fun (v30 : Int32) (σ31 : Sto) => (bd (dc_X9_loan x7 (0 : Int32) σ31) fun r33 σ34 => (if inb (((11 : Int32) * x7) + (3 : Int32)) 44 then jn (fun (v35 : Int32) (σ36 : Sto) => jn (fun (v38 : Int32) (σ39 : Sto) => (if v38 = 0 then some ((0 : Int32), σ39) else (bd (dc_X9_loan x7 (11 : Int32) σ39) fun r41 σ42 => (bd (dc_L_principals x7 (0 : Int32) σ42) fun r43 σ44 => (if r41 = r43 then (bd (dc_X9_loan x7 (12 : Int32) σ44) fun r45 σ46 => (bd (dc_L_principals x7 (1 : Int32) σ46) fun r47 σ48 => (if r45 = r47 then jn (fun (σ49 : Sto) => (if inb (((11 : Int32) * x7) + (6 : Int32)) 44 then (if inb (((11 : Int32) * x7) + (10 : Int32)) 44 then jn (fun (v51 : Int32) => jn (fun (v53 : Int32) => (if v28 = 0 then rec1 (x3 + (σ49.1 336 0 (((11 : Int32) * x7) + (6 : Int32)).toNatClampNeg)) (x4 + v53) (x5 + v51) (x6 + (0 : Int32)) (x7 + 1) σ49 else (if inb (((11 : Int32) * x7) + (4 : Int32)) 44 then rec1 (x3 + (σ49.1 336 0 (((11 : Int32) * x7) + (6 : Int32)).toNatClampNeg)) (x4 + v53) (x5 + v51) (x6 + (σ49.1 336 0 (((11 : Int32) * x7) + (4 : Int32)).toNatClampNeg)) (x7 + 1) σ49 else none))) (fun k54 => jn (k54 (0 : Int32)) (fun k55 => (if v28 = 0 then k55  else (if inb (((11 : Int32) * x7) + (8 : Int32)) 44 then (if (σ49.1 336 0 (((11 : Int32) * x7) + (8 : Int32)).toNatClampNeg) ≤ 0 then k55  else k54 (1 : Int32)) else none))))) (fun k52 => (if 0 ≤ (σ49.1 336 0 (((11 : Int32) * x7) + (10 : Int32)).toNatClampNeg) then k52 (1 : Int32) else k52 (0 : Int32))) else none) else none)) (fun k50 => (if v28 = 0 then k50 σ48 else (bd (dc_L_principals x7 (-1 : Int32) σ48) fun r56 σ57 => (if inb (((11 : Int32) * x7) + (4 : Int32)) 44 then (if r56 = (σ57.1 336 0 (((11 : Int32) * x7) + (4 : Int32)).toNatClampNeg) then k50 σ57 else some ((0 : Int32), σ57)) else none)))) else some ((0 : Int32), σ48)))) else some ((0 : Int32), σ44)))))) (fun k40 => jn (fun (σ58 : Sto) => k40 (0 : Int32) σ58) (fun k59 => (if v35 = 0 then k59 σ36 else (bd (dc_X9_loan x7 (6 : Int32) σ36) fun r60 σ61 => (if inb (((11 : Int32) * x7) + (8 : Int32)) 44 then (if r60 = (σ61.1 336 0 (((11 : Int32) * x7) + (8 : Int32)).toNatClampNeg) then (bd (dc_X9_loan x7 (8 : Int32) σ61) fun r62 σ63 => (if inb (((11 : Int32) * x7) + (10 : Int32)) 44 then (if r62 = (σ63.1 336 0 (((11 : Int32) * x7) + (10 : Int32)).toNatClampNeg) then (bd (dc_X9_loan x7 (7 : Int32) σ63) fun r64 σ65 => (if inb (((11 : Int32) * x7) + (9 : Int32)) 44 then (if r64 = (σ65.1 336 0 (((11 : Int32) * x7) + (9 : Int32)).toNatClampNeg) then (bd (dc_X9_loan x7 (9 : Int32) σ65) fun r66 σ67 => (if r66 = v30 then k40 (1 : Int32) σ67 else k59 σ67)) else k59 σ65) else none)) else k59 σ63) else none)) else k59 σ61) else none)))))) (fun k37 => jn (fun (σ68 : Sto) => k37 (0 : Int32) σ68) (fun k69 => (if r33 = (σ34.1 336 0 (((11 : Int32) * x7) + (3 : Int32)).toNatClampNeg) then (bd (dc_X9_loan x7 (1 : Int32) σ34) fun r70 σ71 => (if inb ((11 : Int32) * x7) 44 then (if r70 = (σ71.1 336 0 ((11 : Int32) * x7).toNatClampNeg) then (bd (dc_X9_loan x7 (2 : Int32) σ71) fun r72 σ73 => jn (fun (v74 : Int32) => (if r72 = v74 then (bd (dc_X9_loan x7 (3 : Int32) σ73) fun r76 σ77 => (if inb (((11 : Int32) * x7) + (5 : Int32)) 44 then (if r76 = (σ77.1 336 0 (((11 : Int32) * x7) + (5 : Int32)).toNatClampNeg) then (bd (dc_X9_loan x7 (4 : Int32) σ77) fun r78 σ79 => (if inb (((11 : Int32) * x7) + (6 : Int32)) 44 then (if r78 = (σ79.1 336 0 (((11 : Int32) * x7) + (6 : Int32)).toNatClampNeg) then (bd (dc_X9_loan x7 (5 : Int32) σ79) fun r80 σ81 => (if inb (((11 : Int32) * x7) + (7 : Int32)) 44 then (if r80 = (σ81.1 336 0 (((11 : Int32) * x7) + (7 : Int32)).toNatClampNeg) then k37 (1 : Int32) σ81 else k69 σ81) else none)) else k69 σ79) else none)) else k69 σ77) else none)) else k69 σ73)) (fun k75 => (if v28 = 0 then k75 (0 : Int32) else (if inb (((11 : Int32) * x7) + (4 : Int32)) 44 then k75 (σ73.1 336 0 (((11 : Int32) * x7) + (4 : Int32)).toNatClampNeg) else none)))) else k69 σ71) else none)) else k69 σ34))) else none))) (fun k32 => (if (σ2.1 336 0 (((11 : Int32) * x7) + (3 : Int32)).toNatClampNeg) = 0 then (if inb ((11 : Int32) * x7) 44 then (bd (dc_L_principals x7 (-1 : Int32) σ2) fun r82 σ83 => k32 ((σ2.1 336 0 ((11 : Int32) * x7).toNatClampNeg) - r82) σ83) else none) else k32 (0 : Int32) σ2)) else none)) (fun k29 => (if (σ2.1 336 0 (((11 : Int32) * x7) + (3 : Int32)).toNatClampNeg) = (1 : Int32) then k29 (1 : Int32) else k29 (0 : Int32))) else none)) else none)) FU (0 : Int32) (0 : Int32) (0 : Int32) (0 : Int32) (0 : Int32) σ
set_option maxRecDepth 20000 in
set_option maxHeartbeats 4000000 in
theorem s_L_areLoans {G : Gm} {d : Nat}  {σ τ : Sto} {r : Int32} (h : dc_L_areLoans  σ = some (r, τ)) : Cl G (d + 3) m_L_areLoans [.ref (ad G 9 0 0), .ref (ad G 19 0 0), .ref (ad G 21 0 0), .ref (ad G 22 0 0)] σ (some (.int r)) τ := by
  unfold dc_L_areLoans at h
  refine Cl.mk (cc := cL_areLoans) (own := RL) (nL := 13) (ret := (some .boolean)) rfl rfl rfl rfl (by decide +kernel) (catA rfl) (Nat.le_of_ble_eq_true rfl) (fun X C => ?_)
  show V X G 0 0 (QE X G (some (.int r)) τ) σ 0 [some (.ref (ad G 9 0 0)), some (.ref (ad G 19 0 0)), some (.ref (ad G 21 0 0)), some (.ref (ad G 22 0 0)), none, none, none, none, none, none, none, none, none] []
  refine v_iconst C dL_areLoans_0 ki_0 ?_
  refine v_istore C dL_areLoans_1 (Nat.le_of_ble_eq_true rfl) (lc1 := [some (.ref (ad G 9 0 0)), some (.ref (ad G 19 0 0)), some (.ref (ad G 21 0 0)), some (.ref (ad G 22 0 0)), some (.int (0 : Int32)), none, none, none, none, none, none, none, none]) rfl ?_
  refine v_iconst C dL_areLoans_3 ki_0 ?_
  refine v_istore C dL_areLoans_4 (Nat.le_of_ble_eq_true rfl) (lc1 := [some (.ref (ad G 9 0 0)), some (.ref (ad G 19 0 0)), some (.ref (ad G 21 0 0)), some (.ref (ad G 22 0 0)), some (.int (0 : Int32)), some (.int (0 : Int32)), none, none, none, none, none, none, none]) rfl ?_
  refine v_iconst C dL_areLoans_6 ki_0 ?_
  refine v_istore C dL_areLoans_7 (Nat.le_of_ble_eq_true rfl) (lc1 := [some (.ref (ad G 9 0 0)), some (.ref (ad G 19 0 0)), some (.ref (ad G 21 0 0)), some (.ref (ad G 22 0 0)), some (.int (0 : Int32)), some (.int (0 : Int32)), some (.int (0 : Int32)), none, none, none, none, none, none]) rfl ?_
  refine v_iconst C dL_areLoans_9 ki_0 ?_
  refine v_istore C dL_areLoans_10 (Nat.le_of_ble_eq_true rfl) (lc1 := [some (.ref (ad G 9 0 0)), some (.ref (ad G 19 0 0)), some (.ref (ad G 21 0 0)), some (.ref (ad G 22 0 0)), some (.int (0 : Int32)), some (.int (0 : Int32)), some (.int (0 : Int32)), some (.int (0 : Int32)), none, none, none, none, none]) rfl ?_
  refine v_iconst C dL_areLoans_12 ki_0 ?_
  refine v_istore C dL_areLoans_13 (Nat.le_of_ble_eq_true rfl) (lc1 := [some (.ref (ad G 9 0 0)), some (.ref (ad G 19 0 0)), some (.ref (ad G 21 0 0)), some (.ref (ad G 22 0 0)), some (.int (0 : Int32)), some (.int (0 : Int32)), some (.int (0 : Int32)), some (.int (0 : Int32)), some (.int (0 : Int32)), none, none, none, none]) rfl ?_
  refine v_loop5 (fun x3 x4 x5 x6 x7 σ2 => V X G 0 0 (QE X G (some (.int r)) τ) σ2 15 [some (.ref (ad G 9 0 0)), some (.ref (ad G 19 0 0)), some (.ref (ad G 21 0 0)), some (.ref (ad G 22 0 0)), some (.int x3), some (.int x4), some (.int x5), some (.int x6), some (.int x7), none, none, none, none] []) (fun rec1 hrec1 x3 x4 x5 x6 x7 σ2 h => ?_) h
  refine v_iload C dL_areLoans_15 rfl ?_
  refine v_aload_n C dL_areLoans_17 rfl rfl ?_
  refine v_iconst C dL_areLoans_18 ki_1 ?_
  refine ld_19 C dL_areLoans_19 h (fun h => ?_)
  refine v_icmp_ge C dL_areLoans_20 (tgt := 416) (by decide) h (fun h => ?_) (fun h => ?_)
  · refine v_aload_n C dL_areLoans_416 rfl rfl ?_
    refine v_iconst C dL_areLoans_417 ki_0 ?_
    refine cVi C 9 0 0 (av := [.int (0 : Int32)]) si_X9_count lk_L_25 (ok9) rfl rfl rfl rfl (st := []) rfl (Nat.le_of_ble_eq_true rfl) dL_areLoans_418 h (fun _ _ hc => s_X9_count (d := (d + 1)) (0 : Int32)  hc) (fun r8 σ9 h => ?_)
    refine v_aload_n C dL_areLoans_421 rfl rfl ?_
    refine v_iconst C dL_areLoans_422 ki_0 ?_
    refine ld_19 C dL_areLoans_423 h (fun h => ?_)
    refine v_icmp_ne C dL_areLoans_424 (tgt := 533) (by decide) h (fun h => ?_) (fun h => ?_)
    · refine v_iconst C dL_areLoans_533 ki_0 ?_
      exact v_zretc C dL_areLoans_534 (nar01 (Or.inl rfl)) h
    · refine v_aload_n C dL_areLoans_427 rfl rfl ?_
      refine v_iconst C dL_areLoans_428 ki_2 ?_
      refine cVi C 9 0 0 (av := [.int (2 : Int32)]) si_X9_count lk_L_25 (ok9) rfl rfl rfl rfl (st := []) rfl (Nat.le_of_ble_eq_true rfl) dL_areLoans_429 h (fun _ _ hc => s_X9_count (d := (d + 1)) (2 : Int32)  hc) (fun r10 σ11 h => ?_)
      refine v_aload_n C dL_areLoans_432 rfl rfl ?_
      refine v_iconst C dL_areLoans_433 ki_1 ?_
      refine ld_19 C dL_areLoans_434 h (fun h => ?_)
      refine v_icmp_ne C dL_areLoans_435 (tgt := 533) (by decide) h (fun h => ?_) (fun h => ?_)
      · refine v_iconst C dL_areLoans_533 ki_0 ?_
        exact v_zretc C dL_areLoans_534 (nar01 (Or.inl rfl)) h
      · refine v_aload_n C dL_areLoans_438 rfl rfl ?_
        refine v_bipush C dL_areLoans_439 kb_8 ?_
        refine cVi C 9 0 0 (av := [.int (8 : Int32)]) si_X9_count lk_L_25 (ok9) rfl rfl rfl rfl (st := []) rfl (Nat.le_of_ble_eq_true rfl) dL_areLoans_441 h (fun _ _ hc => s_X9_count (d := (d + 1)) (8 : Int32)  hc) (fun r12 σ13 h => ?_)
        refine v_aload_n C dL_areLoans_444 rfl rfl ?_
        refine v_iconst C dL_areLoans_445 ki_2 ?_
        refine ld_19 C dL_areLoans_446 h (fun h => ?_)
        refine v_icmp_ne C dL_areLoans_447 (tgt := 533) (by decide) h (fun h => ?_) (fun h => ?_)
        · refine v_iconst C dL_areLoans_533 ki_0 ?_
          exact v_zretc C dL_areLoans_534 (nar01 (Or.inl rfl)) h
        · refine v_aload_n C dL_areLoans_450 rfl rfl ?_
          refine v_bipush C dL_areLoans_451 kb_9 ?_
          refine cVi C 9 0 0 (av := [.int (9 : Int32)]) si_X9_count lk_L_25 (ok9) rfl rfl rfl rfl (st := []) rfl (Nat.le_of_ble_eq_true rfl) dL_areLoans_453 h (fun _ _ hc => s_X9_count (d := (d + 1)) (9 : Int32)  hc) (fun r14 σ15 h => ?_)
          refine v_aload_n C dL_areLoans_456 rfl rfl ?_
          refine v_iconst C dL_areLoans_457 ki_3 ?_
          refine ld_19 C dL_areLoans_458 h (fun h => ?_)
          refine v_icmp_ne C dL_areLoans_459 (tgt := 533) (by decide) h (fun h => ?_) (fun h => ?_)
          · refine v_iconst C dL_areLoans_533 ki_0 ?_
            exact v_zretc C dL_areLoans_534 (nar01 (Or.inl rfl)) h
          · refine v_aload_n C dL_areLoans_462 rfl rfl ?_
            refine v_bipush C dL_areLoans_463 kb_10 ?_
            refine cVi C 9 0 0 (av := [.int (10 : Int32)]) si_X9_count lk_L_25 (ok9) rfl rfl rfl rfl (st := []) rfl (Nat.le_of_ble_eq_true rfl) dL_areLoans_465 h (fun _ _ hc => s_X9_count (d := (d + 1)) (10 : Int32)  hc) (fun r16 σ17 h => ?_)
            refine v_aload_n C dL_areLoans_468 rfl rfl ?_
            refine v_iconst C dL_areLoans_469 ki_4 ?_
            refine ld_19 C dL_areLoans_470 h (fun h => ?_)
            refine v_icmp_ne C dL_areLoans_471 (tgt := 533) (by decide) h (fun h => ?_) (fun h => ?_)
            · refine v_iconst C dL_areLoans_533 ki_0 ?_
              exact v_zretc C dL_areLoans_534 (nar01 (Or.inl rfl)) h
            · refine v_aload_n C dL_areLoans_474 rfl rfl ?_
              refine v_bipush C dL_areLoans_475 kb_11 ?_
              refine cVi C 9 0 0 (av := [.int (11 : Int32)]) si_X9_count lk_L_25 (ok9) rfl rfl rfl rfl (st := []) rfl (Nat.le_of_ble_eq_true rfl) dL_areLoans_477 h (fun _ _ hc => s_X9_count (d := (d + 1)) (11 : Int32)  hc) (fun r18 σ19 h => ?_)
              refine v_iload C dL_areLoans_480 rfl ?_
              refine v_icmp_ne C dL_areLoans_482 (tgt := 533) (by decide) h (fun h => ?_) (fun h => ?_)
              · refine v_iconst C dL_areLoans_533 ki_0 ?_
                exact v_zretc C dL_areLoans_534 (nar01 (Or.inl rfl)) h
              · refine v_aload_n C dL_areLoans_485 rfl rfl ?_
                refine v_bipush C dL_areLoans_486 kb_12 ?_
                refine cVi C 9 0 0 (av := [.int (12 : Int32)]) si_X9_count lk_L_25 (ok9) rfl rfl rfl rfl (st := []) rfl (Nat.le_of_ble_eq_true rfl) dL_areLoans_488 h (fun _ _ hc => s_X9_count (d := (d + 1)) (12 : Int32)  hc) (fun r20 σ21 h => ?_)
                refine v_iload C dL_areLoans_491 rfl ?_
                refine v_icmp_ne C dL_areLoans_493 (tgt := 533) (by decide) h (fun h => ?_) (fun h => ?_)
                · refine v_iconst C dL_areLoans_533 ki_0 ?_
                  exact v_zretc C dL_areLoans_534 (nar01 (Or.inl rfl)) h
                · refine v_aload_n C dL_areLoans_496 rfl rfl ?_
                  refine v_bipush C dL_areLoans_497 kb_14 ?_
                  refine cVi C 9 0 0 (av := [.int (14 : Int32)]) si_X9_count lk_L_25 (ok9) rfl rfl rfl rfl (st := []) rfl (Nat.le_of_ble_eq_true rfl) dL_areLoans_499 h (fun _ _ hc => s_X9_count (d := (d + 1)) (14 : Int32)  hc) (fun r22 σ23 h => ?_)
                  refine v_iload C dL_areLoans_502 rfl ?_
                  refine v_icmp_ne C dL_areLoans_504 (tgt := 533) (by decide) h (fun h => ?_) (fun h => ?_)
                  · refine v_iconst C dL_areLoans_533 ki_0 ?_
                    exact v_zretc C dL_areLoans_534 (nar01 (Or.inl rfl)) h
                  · refine v_aload_n C dL_areLoans_507 rfl rfl ?_
                    refine v_bipush C dL_areLoans_508 kb_15 ?_
                    refine cVi C 9 0 0 (av := [.int (15 : Int32)]) si_X9_count lk_L_25 (ok9) rfl rfl rfl rfl (st := []) rfl (Nat.le_of_ble_eq_true rfl) dL_areLoans_510 h (fun _ _ hc => s_X9_count (d := (d + 1)) (15 : Int32)  hc) (fun r24 σ25 h => ?_)
                    refine v_iload C dL_areLoans_513 rfl ?_
                    refine v_icmp_ne C dL_areLoans_515 (tgt := 533) (by decide) h (fun h => ?_) (fun h => ?_)
                    · refine v_iconst C dL_areLoans_533 ki_0 ?_
                      exact v_zretc C dL_areLoans_534 (nar01 (Or.inl rfl)) h
                    · refine v_aload_n C dL_areLoans_518 rfl rfl ?_
                      refine v_bipush C dL_areLoans_519 kb_18 ?_
                      refine cVi C 9 0 0 (av := [.int (18 : Int32)]) si_X9_count lk_L_25 (ok9) rfl rfl rfl rfl (st := []) rfl (Nat.le_of_ble_eq_true rfl) dL_areLoans_521 h (fun _ _ hc => s_X9_count (d := (d + 1)) (18 : Int32)  hc) (fun r26 σ27 h => ?_)
                      refine v_bipush C dL_areLoans_524 kb_m2 ?_
                      refine v_icmp_ne C dL_areLoans_526 (tgt := 533) (by decide) h (fun h => ?_) (fun h => ?_)
                      · refine v_iconst C dL_areLoans_533 ki_0 ?_
                        exact v_zretc C dL_areLoans_534 (nar01 (Or.inl rfl)) h
                      · refine v_iconst C dL_areLoans_529 ki_1 ?_
                        refine v_goto C dL_areLoans_530 (tgt := 534) (by decide) ?_
                        exact v_zretc C dL_areLoans_534 (nar01 (Or.inr rfl)) h
  · refine v_bipush C dL_areLoans_23 kb_11 ?_
    refine v_iload C dL_areLoans_25 rfl ?_
    refine v_imul C dL_areLoans_27 ?_
    refine v_istore C dL_areLoans_28 (Nat.le_of_ble_eq_true rfl) (lc1 := [some (.ref (ad G 9 0 0)), some (.ref (ad G 19 0 0)), some (.ref (ad G 21 0 0)), some (.ref (ad G 22 0 0)), some (.int x3), some (.int x4), some (.int x5), some (.int x6), some (.int x7), some (.int ((11 : Int32) * x7)), none, none, none]) rfl ?_
    refine v_aload_n C dL_areLoans_30 rfl rfl ?_
    refine v_iload C dL_areLoans_31 rfl ?_
    refine v_iconst C dL_areLoans_33 ki_3 ?_
    refine v_iadd C dL_areLoans_34 ?_
    refine ld_21 C dL_areLoans_35 h (fun h => ?_)
    refine v_iconst C dL_areLoans_36 ki_1 ?_
    refine v_join (fun k => ∀ (v28 : Int32), k v28 = some (r, τ) → V X G 0 0 (QE X G (some (.int r)) τ) σ2 45 [some (.ref (ad G 9 0 0)), some (.ref (ad G 19 0 0)), some (.ref (ad G 21 0 0)), some (.ref (ad G 22 0 0)), some (.int x3), some (.int x4), some (.int x5), some (.int x6), some (.int x7), some (.int ((11 : Int32) * x7)), none, none, none] [.int v28]) h (fun v28 h => ?_) (fun k29 hk29 h => ?_)
    · refine v_istore C dL_areLoans_45 (Nat.le_of_ble_eq_true rfl) (lc1 := [some (.ref (ad G 9 0 0)), some (.ref (ad G 19 0 0)), some (.ref (ad G 21 0 0)), some (.ref (ad G 22 0 0)), some (.int x3), some (.int x4), some (.int x5), some (.int x6), some (.int x7), some (.int ((11 : Int32) * x7)), some (.int v28), none, none]) rfl ?_
      refine v_aload_n C dL_areLoans_47 rfl rfl ?_
      refine v_iload C dL_areLoans_48 rfl ?_
      refine v_iconst C dL_areLoans_50 ki_3 ?_
      refine v_iadd C dL_areLoans_51 ?_
      refine ld_21 C dL_areLoans_52 h (fun h => ?_)
      refine v_join (fun k => ∀ (v30 : Int32) (σ31 : Sto), k v30 σ31 = some (r, τ) → V X G 0 0 (QE X G (some (.int r)) τ) σ31 73 [some (.ref (ad G 9 0 0)), some (.ref (ad G 19 0 0)), some (.ref (ad G 21 0 0)), some (.ref (ad G 22 0 0)), some (.int x3), some (.int x4), some (.int x5), some (.int x6), some (.int x7), some (.int ((11 : Int32) * x7)), some (.int v28), none, none] [.int v30]) h (fun v30 σ31 h => ?_) (fun k32 hk32 h => ?_)
      · refine v_istore C dL_areLoans_73 (Nat.le_of_ble_eq_true rfl) (lc1 := [some (.ref (ad G 9 0 0)), some (.ref (ad G 19 0 0)), some (.ref (ad G 21 0 0)), some (.ref (ad G 22 0 0)), some (.int x3), some (.int x4), some (.int x5), some (.int x6), some (.int x7), some (.int ((11 : Int32) * x7)), some (.int v28), some (.int v30), none]) rfl ?_
        refine v_aload_n C dL_areLoans_75 rfl rfl ?_
        refine v_iload C dL_areLoans_76 rfl ?_
        refine v_iconst C dL_areLoans_78 ki_0 ?_
        refine cVi C 9 0 0 (av := [.int x7, .int (0 : Int32)]) si_X9_loan lk_L_19 (ok9) rfl rfl rfl rfl (st := []) rfl (Nat.le_of_ble_eq_true rfl) dL_areLoans_79 h (fun _ _ hc => s_X9_loan (d := d) x7 (0 : Int32)  hc) (fun r33 σ34 h => ?_)
        refine v_aload_n C dL_areLoans_82 rfl rfl ?_
        refine v_iload C dL_areLoans_83 rfl ?_
        refine v_iconst C dL_areLoans_85 ki_3 ?_
        refine v_iadd C dL_areLoans_86 ?_
        refine ld_21 C dL_areLoans_87 h (fun h => ?_)
        refine v_join (fun k => ∀ (v35 : Int32) (σ36 : Sto), k v35 σ36 = some (r, τ) → V X G 0 0 (QE X G (some (.int r)) τ) σ36 185 [some (.ref (ad G 9 0 0)), some (.ref (ad G 19 0 0)), some (.ref (ad G 21 0 0)), some (.ref (ad G 22 0 0)), some (.int x3), some (.int x4), some (.int x5), some (.int x6), some (.int x7), some (.int ((11 : Int32) * x7)), some (.int v28), some (.int v30), none] [.int v35]) h (fun v35 σ36 h => ?_) (fun k37 hk37 h => ?_)
        · refine v_istore C dL_areLoans_185 (Nat.le_of_ble_eq_true rfl) (lc1 := [some (.ref (ad G 9 0 0)), some (.ref (ad G 19 0 0)), some (.ref (ad G 21 0 0)), some (.ref (ad G 22 0 0)), some (.int x3), some (.int x4), some (.int x5), some (.int x6), some (.int x7), some (.int ((11 : Int32) * x7)), some (.int v28), some (.int v30), some (.int v35)]) rfl ?_
          refine v_iload C dL_areLoans_187 rfl ?_
          refine v_join (fun k => ∀ (v38 : Int32) (σ39 : Sto), k v38 σ39 = some (r, τ) → V X G 0 0 (QE X G (some (.int r)) τ) σ39 264 [some (.ref (ad G 9 0 0)), some (.ref (ad G 19 0 0)), some (.ref (ad G 21 0 0)), some (.ref (ad G 22 0 0)), some (.int x3), some (.int x4), some (.int x5), some (.int x6), some (.int x7), some (.int ((11 : Int32) * x7)), some (.int v28), some (.int v30), some (.int v35)] [.int v38]) h (fun v38 σ39 h => ?_) (fun k40 hk40 h => ?_)
          · refine v_istore C dL_areLoans_264 (Nat.le_of_ble_eq_true rfl) (lc1 := [some (.ref (ad G 9 0 0)), some (.ref (ad G 19 0 0)), some (.ref (ad G 21 0 0)), some (.ref (ad G 22 0 0)), some (.int x3), some (.int x4), some (.int x5), some (.int x6), some (.int x7), some (.int ((11 : Int32) * x7)), some (.int v28), some (.int v30), some (.int v38)]) rfl ?_
            refine v_iload C dL_areLoans_266 rfl ?_
            refine v_if_eq C dL_areLoans_268 (tgt := 331) (by decide) h (fun h => ?_) (fun h => ?_)
            · refine v_iconst C dL_areLoans_331 ki_0 ?_
              exact v_zretc C dL_areLoans_332 (nar01 (Or.inl rfl)) h
            · refine v_aload_n C dL_areLoans_271 rfl rfl ?_
              refine v_iload C dL_areLoans_272 rfl ?_
              refine v_bipush C dL_areLoans_274 kb_11 ?_
              refine cVi C 9 0 0 (av := [.int x7, .int (11 : Int32)]) si_X9_loan lk_L_19 (ok9) rfl rfl rfl rfl (st := []) rfl (Nat.le_of_ble_eq_true rfl) dL_areLoans_276 h (fun _ _ hc => s_X9_loan (d := d) x7 (11 : Int32)  hc) (fun r41 σ42 h => ?_)
              refine v_aload_n C dL_areLoans_279 rfl rfl ?_
              refine v_aload_n C dL_areLoans_280 rfl rfl ?_
              refine v_iload C dL_areLoans_281 rfl ?_
              refine v_iconst C dL_areLoans_283 ki_0 ?_
              refine cSi C (av := [.ref (ad G 19 0 0), .ref (ad G 22 0 0), .int x7, .int (0 : Int32)]) si_L_principals lk_L_9 rfl rfl (st := [.int r41]) rfl (Nat.le_of_ble_eq_true rfl) dL_areLoans_284 h (fun _ _ hc => s_L_principals (d := (d + 2)) x7 (0 : Int32)  hc) (fun r43 σ44 h => ?_)
              refine v_icmp_ne C dL_areLoans_287 (tgt := 331) (by decide) h (fun h => ?_) (fun h => ?_)
              · refine v_iconst C dL_areLoans_331 ki_0 ?_
                exact v_zretc C dL_areLoans_332 (nar01 (Or.inl rfl)) h
              · refine v_aload_n C dL_areLoans_290 rfl rfl ?_
                refine v_iload C dL_areLoans_291 rfl ?_
                refine v_bipush C dL_areLoans_293 kb_12 ?_
                refine cVi C 9 0 0 (av := [.int x7, .int (12 : Int32)]) si_X9_loan lk_L_19 (ok9) rfl rfl rfl rfl (st := []) rfl (Nat.le_of_ble_eq_true rfl) dL_areLoans_295 h (fun _ _ hc => s_X9_loan (d := d) x7 (12 : Int32)  hc) (fun r45 σ46 h => ?_)
                refine v_aload_n C dL_areLoans_298 rfl rfl ?_
                refine v_aload_n C dL_areLoans_299 rfl rfl ?_
                refine v_iload C dL_areLoans_300 rfl ?_
                refine v_iconst C dL_areLoans_302 ki_1 ?_
                refine cSi C (av := [.ref (ad G 19 0 0), .ref (ad G 22 0 0), .int x7, .int (1 : Int32)]) si_L_principals lk_L_9 rfl rfl (st := [.int r45]) rfl (Nat.le_of_ble_eq_true rfl) dL_areLoans_303 h (fun _ _ hc => s_L_principals (d := (d + 2)) x7 (1 : Int32)  hc) (fun r47 σ48 h => ?_)
                refine v_icmp_ne C dL_areLoans_306 (tgt := 331) (by decide) h (fun h => ?_) (fun h => ?_)
                · refine v_iconst C dL_areLoans_331 ki_0 ?_
                  exact v_zretc C dL_areLoans_332 (nar01 (Or.inl rfl)) h
                · refine v_iload C dL_areLoans_309 rfl ?_
                  refine v_join (fun k => ∀ (σ49 : Sto), k σ49 = some (r, τ) → V X G 0 0 (QE X G (some (.int r)) τ) σ49 333 [some (.ref (ad G 9 0 0)), some (.ref (ad G 19 0 0)), some (.ref (ad G 21 0 0)), some (.ref (ad G 22 0 0)), some (.int x3), some (.int x4), some (.int x5), some (.int x6), some (.int x7), some (.int ((11 : Int32) * x7)), some (.int v28), some (.int v30), some (.int v38)] []) h (fun σ49 h => ?_) (fun k50 hk50 h => ?_)
                  · refine v_iload C dL_areLoans_333 rfl ?_
                    refine v_aload_n C dL_areLoans_335 rfl rfl ?_
                    refine v_iload C dL_areLoans_336 rfl ?_
                    refine v_bipush C dL_areLoans_338 kb_6 ?_
                    refine v_iadd C dL_areLoans_340 ?_
                    refine ld_21 C dL_areLoans_341 h (fun h => ?_)
                    refine v_iadd C dL_areLoans_342 ?_
                    refine v_istore C dL_areLoans_343 (Nat.le_of_ble_eq_true rfl) (lc1 := [some (.ref (ad G 9 0 0)), some (.ref (ad G 19 0 0)), some (.ref (ad G 21 0 0)), some (.ref (ad G 22 0 0)), some (.int (x3 + (σ49.1 336 0 (((11 : Int32) * x7) + (6 : Int32)).toNatClampNeg))), some (.int x4), some (.int x5), some (.int x6), some (.int x7), some (.int ((11 : Int32) * x7)), some (.int v28), some (.int v30), some (.int v38)]) rfl ?_
                    refine v_iload C dL_areLoans_345 rfl ?_
                    refine v_aload_n C dL_areLoans_347 rfl rfl ?_
                    refine v_iload C dL_areLoans_348 rfl ?_
                    refine v_bipush C dL_areLoans_350 kb_10 ?_
                    refine v_iadd C dL_areLoans_352 ?_
                    refine ld_21 C dL_areLoans_353 h (fun h => ?_)
                    refine v_join (fun k => ∀ (v51 : Int32), k v51 = some (r, τ) → V X G 0 0 (QE X G (some (.int r)) τ) σ49 362 [some (.ref (ad G 9 0 0)), some (.ref (ad G 19 0 0)), some (.ref (ad G 21 0 0)), some (.ref (ad G 22 0 0)), some (.int (x3 + (σ49.1 336 0 (((11 : Int32) * x7) + (6 : Int32)).toNatClampNeg))), some (.int x4), some (.int x5), some (.int x6), some (.int x7), some (.int ((11 : Int32) * x7)), some (.int v28), some (.int v30), some (.int v38)] [.int v51, .int x5]) h (fun v51 h => ?_) (fun k52 hk52 h => ?_)
                    · refine v_iadd C dL_areLoans_362 ?_
                      refine v_istore C dL_areLoans_363 (Nat.le_of_ble_eq_true rfl) (lc1 := [some (.ref (ad G 9 0 0)), some (.ref (ad G 19 0 0)), some (.ref (ad G 21 0 0)), some (.ref (ad G 22 0 0)), some (.int (x3 + (σ49.1 336 0 (((11 : Int32) * x7) + (6 : Int32)).toNatClampNeg))), some (.int x4), some (.int (x5 + v51)), some (.int x6), some (.int x7), some (.int ((11 : Int32) * x7)), some (.int v28), some (.int v30), some (.int v38)]) rfl ?_
                      refine v_iload C dL_areLoans_365 rfl ?_
                      refine v_iload C dL_areLoans_367 rfl ?_
                      refine v_join (fun k => ∀ (v53 : Int32), k v53 = some (r, τ) → V X G 0 0 (QE X G (some (.int r)) τ) σ49 387 [some (.ref (ad G 9 0 0)), some (.ref (ad G 19 0 0)), some (.ref (ad G 21 0 0)), some (.ref (ad G 22 0 0)), some (.int (x3 + (σ49.1 336 0 (((11 : Int32) * x7) + (6 : Int32)).toNatClampNeg))), some (.int x4), some (.int (x5 + v51)), some (.int x6), some (.int x7), some (.int ((11 : Int32) * x7)), some (.int v28), some (.int v30), some (.int v38)] [.int v53, .int x4]) h (fun v53 h => ?_) (fun k54 hk54 h => ?_)
                      · refine v_iadd C dL_areLoans_387 ?_
                        refine v_istore C dL_areLoans_388 (Nat.le_of_ble_eq_true rfl) (lc1 := [some (.ref (ad G 9 0 0)), some (.ref (ad G 19 0 0)), some (.ref (ad G 21 0 0)), some (.ref (ad G 22 0 0)), some (.int (x3 + (σ49.1 336 0 (((11 : Int32) * x7) + (6 : Int32)).toNatClampNeg))), some (.int (x4 + v53)), some (.int (x5 + v51)), some (.int x6), some (.int x7), some (.int ((11 : Int32) * x7)), some (.int v28), some (.int v30), some (.int v38)]) rfl ?_
                        refine v_iload C dL_areLoans_390 rfl ?_
                        refine v_iload C dL_areLoans_392 rfl ?_
                        refine v_if_eq C dL_areLoans_394 (tgt := 406) (by decide) h (fun h => ?_) (fun h => ?_)
                        · refine v_iconst C dL_areLoans_406 ki_0 ?_
                          refine v_iadd C dL_areLoans_407 ?_
                          refine v_istore C dL_areLoans_408 (Nat.le_of_ble_eq_true rfl) (lc1 := [some (.ref (ad G 9 0 0)), some (.ref (ad G 19 0 0)), some (.ref (ad G 21 0 0)), some (.ref (ad G 22 0 0)), some (.int (x3 + (σ49.1 336 0 (((11 : Int32) * x7) + (6 : Int32)).toNatClampNeg))), some (.int (x4 + v53)), some (.int (x5 + v51)), some (.int (x6 + (0 : Int32))), some (.int x7), some (.int ((11 : Int32) * x7)), some (.int v28), some (.int v30), some (.int v38)]) rfl ?_
                          refine v_iinc C dL_areLoans_410 rfl (kc_1 _) (lc1 := [some (.ref (ad G 9 0 0)), some (.ref (ad G 19 0 0)), some (.ref (ad G 21 0 0)), some (.ref (ad G 22 0 0)), some (.int (x3 + (σ49.1 336 0 (((11 : Int32) * x7) + (6 : Int32)).toNatClampNeg))), some (.int (x4 + v53)), some (.int (x5 + v51)), some (.int (x6 + (0 : Int32))), some (.int (x7 + 1)), some (.int ((11 : Int32) * x7)), some (.int v28), some (.int v30), some (.int v38)]) rfl ?_
                          refine v_goto C dL_areLoans_413 (tgt := 15) (by decide) ?_
                          refine v_mask [true, true, true, true, true, true, true, true, true, false, false, false, false] (lc' := [some (.ref (ad G 9 0 0)), some (.ref (ad G 19 0 0)), some (.ref (ad G 21 0 0)), some (.ref (ad G 22 0 0)), some (.int (x3 + (σ49.1 336 0 (((11 : Int32) * x7) + (6 : Int32)).toNatClampNeg))), some (.int (x4 + v53)), some (.int (x5 + v51)), some (.int (x6 + (0 : Int32))), some (.int (x7 + 1)), none, none, none, none]) rfl ?_
                          exact hrec1 _ _ _ _ _ _ h
                        · refine v_aload_n C dL_areLoans_397 rfl rfl ?_
                          refine v_iload C dL_areLoans_398 rfl ?_
                          refine v_iconst C dL_areLoans_400 ki_4 ?_
                          refine v_iadd C dL_areLoans_401 ?_
                          refine ld_21 C dL_areLoans_402 h (fun h => ?_)
                          refine v_goto C dL_areLoans_403 (tgt := 407) (by decide) ?_
                          refine v_iadd C dL_areLoans_407 ?_
                          refine v_istore C dL_areLoans_408 (Nat.le_of_ble_eq_true rfl) (lc1 := [some (.ref (ad G 9 0 0)), some (.ref (ad G 19 0 0)), some (.ref (ad G 21 0 0)), some (.ref (ad G 22 0 0)), some (.int (x3 + (σ49.1 336 0 (((11 : Int32) * x7) + (6 : Int32)).toNatClampNeg))), some (.int (x4 + v53)), some (.int (x5 + v51)), some (.int (x6 + (σ49.1 336 0 (((11 : Int32) * x7) + (4 : Int32)).toNatClampNeg))), some (.int x7), some (.int ((11 : Int32) * x7)), some (.int v28), some (.int v30), some (.int v38)]) rfl ?_
                          refine v_iinc C dL_areLoans_410 rfl (kc_1 _) (lc1 := [some (.ref (ad G 9 0 0)), some (.ref (ad G 19 0 0)), some (.ref (ad G 21 0 0)), some (.ref (ad G 22 0 0)), some (.int (x3 + (σ49.1 336 0 (((11 : Int32) * x7) + (6 : Int32)).toNatClampNeg))), some (.int (x4 + v53)), some (.int (x5 + v51)), some (.int (x6 + (σ49.1 336 0 (((11 : Int32) * x7) + (4 : Int32)).toNatClampNeg))), some (.int (x7 + 1)), some (.int ((11 : Int32) * x7)), some (.int v28), some (.int v30), some (.int v38)]) rfl ?_
                          refine v_goto C dL_areLoans_413 (tgt := 15) (by decide) ?_
                          refine v_mask [true, true, true, true, true, true, true, true, true, false, false, false, false] (lc' := [some (.ref (ad G 9 0 0)), some (.ref (ad G 19 0 0)), some (.ref (ad G 21 0 0)), some (.ref (ad G 22 0 0)), some (.int (x3 + (σ49.1 336 0 (((11 : Int32) * x7) + (6 : Int32)).toNatClampNeg))), some (.int (x4 + v53)), some (.int (x5 + v51)), some (.int (x6 + (σ49.1 336 0 (((11 : Int32) * x7) + (4 : Int32)).toNatClampNeg))), some (.int (x7 + 1)), none, none, none, none]) rfl ?_
                          exact hrec1 _ _ _ _ _ _ h
                      · refine v_join (fun k => k = some (r, τ) → V X G 0 0 (QE X G (some (.int r)) τ) σ49 386 [some (.ref (ad G 9 0 0)), some (.ref (ad G 19 0 0)), some (.ref (ad G 21 0 0)), some (.ref (ad G 22 0 0)), some (.int (x3 + (σ49.1 336 0 (((11 : Int32) * x7) + (6 : Int32)).toNatClampNeg))), some (.int x4), some (.int (x5 + v51)), some (.int x6), some (.int x7), some (.int ((11 : Int32) * x7)), some (.int v28), some (.int v30), some (.int v38)] [.int x4]) h (fun h => ?_) (fun k55 hk55 h => ?_)
                        · refine v_iconst C dL_areLoans_386 ki_0 ?_
                          refine v_mask [true, true, true, true, true, true, true, true, true, true, true, true, true] (lc' := [some (.ref (ad G 9 0 0)), some (.ref (ad G 19 0 0)), some (.ref (ad G 21 0 0)), some (.ref (ad G 22 0 0)), some (.int (x3 + (σ49.1 336 0 (((11 : Int32) * x7) + (6 : Int32)).toNatClampNeg))), some (.int x4), some (.int (x5 + v51)), some (.int x6), some (.int x7), some (.int ((11 : Int32) * x7)), some (.int v28), some (.int v30), some (.int v38)]) rfl ?_
                          exact hk54 _ h
                        · refine v_if_eq C dL_areLoans_369 (tgt := 386) (by decide) h (fun h => ?_) (fun h => ?_)
                          · refine v_mask [true, true, true, true, true, true, true, true, true, true, true, true, true] (lc' := [some (.ref (ad G 9 0 0)), some (.ref (ad G 19 0 0)), some (.ref (ad G 21 0 0)), some (.ref (ad G 22 0 0)), some (.int (x3 + (σ49.1 336 0 (((11 : Int32) * x7) + (6 : Int32)).toNatClampNeg))), some (.int x4), some (.int (x5 + v51)), some (.int x6), some (.int x7), some (.int ((11 : Int32) * x7)), some (.int v28), some (.int v30), some (.int v38)]) rfl ?_
                            exact hk55 h
                          · refine v_aload_n C dL_areLoans_372 rfl rfl ?_
                            refine v_iload C dL_areLoans_373 rfl ?_
                            refine v_bipush C dL_areLoans_375 kb_8 ?_
                            refine v_iadd C dL_areLoans_377 ?_
                            refine ld_21 C dL_areLoans_378 h (fun h => ?_)
                            refine v_if_le C dL_areLoans_379 (tgt := 386) (by decide) h (fun h => ?_) (fun h => ?_)
                            · refine v_mask [true, true, true, true, true, true, true, true, true, true, true, true, true] (lc' := [some (.ref (ad G 9 0 0)), some (.ref (ad G 19 0 0)), some (.ref (ad G 21 0 0)), some (.ref (ad G 22 0 0)), some (.int (x3 + (σ49.1 336 0 (((11 : Int32) * x7) + (6 : Int32)).toNatClampNeg))), some (.int x4), some (.int (x5 + v51)), some (.int x6), some (.int x7), some (.int ((11 : Int32) * x7)), some (.int v28), some (.int v30), some (.int v38)]) rfl ?_
                              exact hk55 h
                            · refine v_iconst C dL_areLoans_382 ki_1 ?_
                              refine v_goto C dL_areLoans_383 (tgt := 387) (by decide) ?_
                              refine v_mask [true, true, true, true, true, true, true, true, true, true, true, true, true] (lc' := [some (.ref (ad G 9 0 0)), some (.ref (ad G 19 0 0)), some (.ref (ad G 21 0 0)), some (.ref (ad G 22 0 0)), some (.int (x3 + (σ49.1 336 0 (((11 : Int32) * x7) + (6 : Int32)).toNatClampNeg))), some (.int x4), some (.int (x5 + v51)), some (.int x6), some (.int x7), some (.int ((11 : Int32) * x7)), some (.int v28), some (.int v30), some (.int v38)]) rfl ?_
                              exact hk54 _ h
                    · refine v_if_ge C dL_areLoans_354 (tgt := 361) (by decide) h (fun h => ?_) (fun h => ?_)
                      · refine v_iconst C dL_areLoans_361 ki_1 ?_
                        refine v_mask [true, true, true, true, true, true, true, true, true, true, true, true, true] (lc' := [some (.ref (ad G 9 0 0)), some (.ref (ad G 19 0 0)), some (.ref (ad G 21 0 0)), some (.ref (ad G 22 0 0)), some (.int (x3 + (σ49.1 336 0 (((11 : Int32) * x7) + (6 : Int32)).toNatClampNeg))), some (.int x4), some (.int x5), some (.int x6), some (.int x7), some (.int ((11 : Int32) * x7)), some (.int v28), some (.int v30), some (.int v38)]) rfl ?_
                        exact hk52 _ h
                      · refine v_iconst C dL_areLoans_357 ki_0 ?_
                        refine v_goto C dL_areLoans_358 (tgt := 362) (by decide) ?_
                        refine v_mask [true, true, true, true, true, true, true, true, true, true, true, true, true] (lc' := [some (.ref (ad G 9 0 0)), some (.ref (ad G 19 0 0)), some (.ref (ad G 21 0 0)), some (.ref (ad G 22 0 0)), some (.int (x3 + (σ49.1 336 0 (((11 : Int32) * x7) + (6 : Int32)).toNatClampNeg))), some (.int x4), some (.int x5), some (.int x6), some (.int x7), some (.int ((11 : Int32) * x7)), some (.int v28), some (.int v30), some (.int v38)]) rfl ?_
                        exact hk52 _ h
                  · refine v_if_eq C dL_areLoans_311 (tgt := 333) (by decide) h (fun h => ?_) (fun h => ?_)
                    · refine v_mask [true, true, true, true, true, true, true, true, true, true, true, true, true] (lc' := [some (.ref (ad G 9 0 0)), some (.ref (ad G 19 0 0)), some (.ref (ad G 21 0 0)), some (.ref (ad G 22 0 0)), some (.int x3), some (.int x4), some (.int x5), some (.int x6), some (.int x7), some (.int ((11 : Int32) * x7)), some (.int v28), some (.int v30), some (.int v38)]) rfl ?_
                      exact hk50 _ h
                    · refine v_aload_n C dL_areLoans_314 rfl rfl ?_
                      refine v_aload_n C dL_areLoans_315 rfl rfl ?_
                      refine v_iload C dL_areLoans_316 rfl ?_
                      refine v_iconst C dL_areLoans_318 ki_m1 ?_
                      refine cSi C (av := [.ref (ad G 19 0 0), .ref (ad G 22 0 0), .int x7, .int (-1 : Int32)]) si_L_principals lk_L_9 rfl rfl (st := []) rfl (Nat.le_of_ble_eq_true rfl) dL_areLoans_319 h (fun _ _ hc => s_L_principals (d := (d + 2)) x7 (-1 : Int32)  hc) (fun r56 σ57 h => ?_)
                      refine v_aload_n C dL_areLoans_322 rfl rfl ?_
                      refine v_iload C dL_areLoans_323 rfl ?_
                      refine v_iconst C dL_areLoans_325 ki_4 ?_
                      refine v_iadd C dL_areLoans_326 ?_
                      refine ld_21 C dL_areLoans_327 h (fun h => ?_)
                      refine v_icmp_eq C dL_areLoans_328 (tgt := 333) (by decide) h (fun h => ?_) (fun h => ?_)
                      · refine v_mask [true, true, true, true, true, true, true, true, true, true, true, true, true] (lc' := [some (.ref (ad G 9 0 0)), some (.ref (ad G 19 0 0)), some (.ref (ad G 21 0 0)), some (.ref (ad G 22 0 0)), some (.int x3), some (.int x4), some (.int x5), some (.int x6), some (.int x7), some (.int ((11 : Int32) * x7)), some (.int v28), some (.int v30), some (.int v38)]) rfl ?_
                        exact hk50 _ h
                      · refine v_iconst C dL_areLoans_331 ki_0 ?_
                        exact v_zretc C dL_areLoans_332 (nar01 (Or.inl rfl)) h
          · refine v_join (fun k => ∀ (σ58 : Sto), k σ58 = some (r, τ) → V X G 0 0 (QE X G (some (.int r)) τ) σ58 263 [some (.ref (ad G 9 0 0)), some (.ref (ad G 19 0 0)), some (.ref (ad G 21 0 0)), some (.ref (ad G 22 0 0)), some (.int x3), some (.int x4), some (.int x5), some (.int x6), some (.int x7), some (.int ((11 : Int32) * x7)), some (.int v28), some (.int v30), some (.int v35)] []) h (fun σ58 h => ?_) (fun k59 hk59 h => ?_)
            · refine v_iconst C dL_areLoans_263 ki_0 ?_
              refine v_mask [true, true, true, true, true, true, true, true, true, true, true, true, true] (lc' := [some (.ref (ad G 9 0 0)), some (.ref (ad G 19 0 0)), some (.ref (ad G 21 0 0)), some (.ref (ad G 22 0 0)), some (.int x3), some (.int x4), some (.int x5), some (.int x6), some (.int x7), some (.int ((11 : Int32) * x7)), some (.int v28), some (.int v30), some (.int v35)]) rfl ?_
              exact hk40 _ _ h
            · refine v_if_eq C dL_areLoans_189 (tgt := 263) (by decide) h (fun h => ?_) (fun h => ?_)
              · refine v_mask [true, true, true, true, true, true, true, true, true, true, true, true, true] (lc' := [some (.ref (ad G 9 0 0)), some (.ref (ad G 19 0 0)), some (.ref (ad G 21 0 0)), some (.ref (ad G 22 0 0)), some (.int x3), some (.int x4), some (.int x5), some (.int x6), some (.int x7), some (.int ((11 : Int32) * x7)), some (.int v28), some (.int v30), some (.int v35)]) rfl ?_
                exact hk59 _ h
              · refine v_aload_n C dL_areLoans_192 rfl rfl ?_
                refine v_iload C dL_areLoans_193 rfl ?_
                refine v_bipush C dL_areLoans_195 kb_6 ?_
                refine cVi C 9 0 0 (av := [.int x7, .int (6 : Int32)]) si_X9_loan lk_L_19 (ok9) rfl rfl rfl rfl (st := []) rfl (Nat.le_of_ble_eq_true rfl) dL_areLoans_197 h (fun _ _ hc => s_X9_loan (d := d) x7 (6 : Int32)  hc) (fun r60 σ61 h => ?_)
                refine v_aload_n C dL_areLoans_200 rfl rfl ?_
                refine v_iload C dL_areLoans_201 rfl ?_
                refine v_bipush C dL_areLoans_203 kb_8 ?_
                refine v_iadd C dL_areLoans_205 ?_
                refine ld_21 C dL_areLoans_206 h (fun h => ?_)
                refine v_icmp_ne C dL_areLoans_207 (tgt := 263) (by decide) h (fun h => ?_) (fun h => ?_)
                · refine v_mask [true, true, true, true, true, true, true, true, true, true, true, true, true] (lc' := [some (.ref (ad G 9 0 0)), some (.ref (ad G 19 0 0)), some (.ref (ad G 21 0 0)), some (.ref (ad G 22 0 0)), some (.int x3), some (.int x4), some (.int x5), some (.int x6), some (.int x7), some (.int ((11 : Int32) * x7)), some (.int v28), some (.int v30), some (.int v35)]) rfl ?_
                  exact hk59 _ h
                · refine v_aload_n C dL_areLoans_210 rfl rfl ?_
                  refine v_iload C dL_areLoans_211 rfl ?_
                  refine v_bipush C dL_areLoans_213 kb_8 ?_
                  refine cVi C 9 0 0 (av := [.int x7, .int (8 : Int32)]) si_X9_loan lk_L_19 (ok9) rfl rfl rfl rfl (st := []) rfl (Nat.le_of_ble_eq_true rfl) dL_areLoans_215 h (fun _ _ hc => s_X9_loan (d := d) x7 (8 : Int32)  hc) (fun r62 σ63 h => ?_)
                  refine v_aload_n C dL_areLoans_218 rfl rfl ?_
                  refine v_iload C dL_areLoans_219 rfl ?_
                  refine v_bipush C dL_areLoans_221 kb_10 ?_
                  refine v_iadd C dL_areLoans_223 ?_
                  refine ld_21 C dL_areLoans_224 h (fun h => ?_)
                  refine v_icmp_ne C dL_areLoans_225 (tgt := 263) (by decide) h (fun h => ?_) (fun h => ?_)
                  · refine v_mask [true, true, true, true, true, true, true, true, true, true, true, true, true] (lc' := [some (.ref (ad G 9 0 0)), some (.ref (ad G 19 0 0)), some (.ref (ad G 21 0 0)), some (.ref (ad G 22 0 0)), some (.int x3), some (.int x4), some (.int x5), some (.int x6), some (.int x7), some (.int ((11 : Int32) * x7)), some (.int v28), some (.int v30), some (.int v35)]) rfl ?_
                    exact hk59 _ h
                  · refine v_aload_n C dL_areLoans_228 rfl rfl ?_
                    refine v_iload C dL_areLoans_229 rfl ?_
                    refine v_bipush C dL_areLoans_231 kb_7 ?_
                    refine cVi C 9 0 0 (av := [.int x7, .int (7 : Int32)]) si_X9_loan lk_L_19 (ok9) rfl rfl rfl rfl (st := []) rfl (Nat.le_of_ble_eq_true rfl) dL_areLoans_233 h (fun _ _ hc => s_X9_loan (d := d) x7 (7 : Int32)  hc) (fun r64 σ65 h => ?_)
                    refine v_aload_n C dL_areLoans_236 rfl rfl ?_
                    refine v_iload C dL_areLoans_237 rfl ?_
                    refine v_bipush C dL_areLoans_239 kb_9 ?_
                    refine v_iadd C dL_areLoans_241 ?_
                    refine ld_21 C dL_areLoans_242 h (fun h => ?_)
                    refine v_icmp_ne C dL_areLoans_243 (tgt := 263) (by decide) h (fun h => ?_) (fun h => ?_)
                    · refine v_mask [true, true, true, true, true, true, true, true, true, true, true, true, true] (lc' := [some (.ref (ad G 9 0 0)), some (.ref (ad G 19 0 0)), some (.ref (ad G 21 0 0)), some (.ref (ad G 22 0 0)), some (.int x3), some (.int x4), some (.int x5), some (.int x6), some (.int x7), some (.int ((11 : Int32) * x7)), some (.int v28), some (.int v30), some (.int v35)]) rfl ?_
                      exact hk59 _ h
                    · refine v_aload_n C dL_areLoans_246 rfl rfl ?_
                      refine v_iload C dL_areLoans_247 rfl ?_
                      refine v_bipush C dL_areLoans_249 kb_9 ?_
                      refine cVi C 9 0 0 (av := [.int x7, .int (9 : Int32)]) si_X9_loan lk_L_19 (ok9) rfl rfl rfl rfl (st := []) rfl (Nat.le_of_ble_eq_true rfl) dL_areLoans_251 h (fun _ _ hc => s_X9_loan (d := d) x7 (9 : Int32)  hc) (fun r66 σ67 h => ?_)
                      refine v_iload C dL_areLoans_254 rfl ?_
                      refine v_icmp_ne C dL_areLoans_256 (tgt := 263) (by decide) h (fun h => ?_) (fun h => ?_)
                      · refine v_mask [true, true, true, true, true, true, true, true, true, true, true, true, true] (lc' := [some (.ref (ad G 9 0 0)), some (.ref (ad G 19 0 0)), some (.ref (ad G 21 0 0)), some (.ref (ad G 22 0 0)), some (.int x3), some (.int x4), some (.int x5), some (.int x6), some (.int x7), some (.int ((11 : Int32) * x7)), some (.int v28), some (.int v30), some (.int v35)]) rfl ?_
                        exact hk59 _ h
                      · refine v_iconst C dL_areLoans_259 ki_1 ?_
                        refine v_goto C dL_areLoans_260 (tgt := 264) (by decide) ?_
                        refine v_mask [true, true, true, true, true, true, true, true, true, true, true, true, true] (lc' := [some (.ref (ad G 9 0 0)), some (.ref (ad G 19 0 0)), some (.ref (ad G 21 0 0)), some (.ref (ad G 22 0 0)), some (.int x3), some (.int x4), some (.int x5), some (.int x6), some (.int x7), some (.int ((11 : Int32) * x7)), some (.int v28), some (.int v30), some (.int v35)]) rfl ?_
                        exact hk40 _ _ h
        · refine v_join (fun k => ∀ (σ68 : Sto), k σ68 = some (r, τ) → V X G 0 0 (QE X G (some (.int r)) τ) σ68 184 [some (.ref (ad G 9 0 0)), some (.ref (ad G 19 0 0)), some (.ref (ad G 21 0 0)), some (.ref (ad G 22 0 0)), some (.int x3), some (.int x4), some (.int x5), some (.int x6), some (.int x7), some (.int ((11 : Int32) * x7)), some (.int v28), some (.int v30), none] []) h (fun σ68 h => ?_) (fun k69 hk69 h => ?_)
          · refine v_iconst C dL_areLoans_184 ki_0 ?_
            refine v_mask [true, true, true, true, true, true, true, true, true, true, true, true, false] (lc' := [some (.ref (ad G 9 0 0)), some (.ref (ad G 19 0 0)), some (.ref (ad G 21 0 0)), some (.ref (ad G 22 0 0)), some (.int x3), some (.int x4), some (.int x5), some (.int x6), some (.int x7), some (.int ((11 : Int32) * x7)), some (.int v28), some (.int v30), none]) rfl ?_
            exact hk37 _ _ h
          · refine v_icmp_ne C dL_areLoans_88 (tgt := 184) (by decide) h (fun h => ?_) (fun h => ?_)
            · refine v_mask [true, true, true, true, true, true, true, true, true, true, true, true, false] (lc' := [some (.ref (ad G 9 0 0)), some (.ref (ad G 19 0 0)), some (.ref (ad G 21 0 0)), some (.ref (ad G 22 0 0)), some (.int x3), some (.int x4), some (.int x5), some (.int x6), some (.int x7), some (.int ((11 : Int32) * x7)), some (.int v28), some (.int v30), none]) rfl ?_
              exact hk69 _ h
            · refine v_aload_n C dL_areLoans_91 rfl rfl ?_
              refine v_iload C dL_areLoans_92 rfl ?_
              refine v_iconst C dL_areLoans_94 ki_1 ?_
              refine cVi C 9 0 0 (av := [.int x7, .int (1 : Int32)]) si_X9_loan lk_L_19 (ok9) rfl rfl rfl rfl (st := []) rfl (Nat.le_of_ble_eq_true rfl) dL_areLoans_95 h (fun _ _ hc => s_X9_loan (d := d) x7 (1 : Int32)  hc) (fun r70 σ71 h => ?_)
              refine v_aload_n C dL_areLoans_98 rfl rfl ?_
              refine v_iload C dL_areLoans_99 rfl ?_
              refine ld_21 C dL_areLoans_101 h (fun h => ?_)
              refine v_icmp_ne C dL_areLoans_102 (tgt := 184) (by decide) h (fun h => ?_) (fun h => ?_)
              · refine v_mask [true, true, true, true, true, true, true, true, true, true, true, true, false] (lc' := [some (.ref (ad G 9 0 0)), some (.ref (ad G 19 0 0)), some (.ref (ad G 21 0 0)), some (.ref (ad G 22 0 0)), some (.int x3), some (.int x4), some (.int x5), some (.int x6), some (.int x7), some (.int ((11 : Int32) * x7)), some (.int v28), some (.int v30), none]) rfl ?_
                exact hk69 _ h
              · refine v_aload_n C dL_areLoans_105 rfl rfl ?_
                refine v_iload C dL_areLoans_106 rfl ?_
                refine v_iconst C dL_areLoans_108 ki_2 ?_
                refine cVi C 9 0 0 (av := [.int x7, .int (2 : Int32)]) si_X9_loan lk_L_19 (ok9) rfl rfl rfl rfl (st := []) rfl (Nat.le_of_ble_eq_true rfl) dL_areLoans_109 h (fun _ _ hc => s_X9_loan (d := d) x7 (2 : Int32)  hc) (fun r72 σ73 h => ?_)
                refine v_iload C dL_areLoans_112 rfl ?_
                refine v_join (fun k => ∀ (v74 : Int32), k v74 = some (r, τ) → V X G 0 0 (QE X G (some (.int r)) τ) σ73 127 [some (.ref (ad G 9 0 0)), some (.ref (ad G 19 0 0)), some (.ref (ad G 21 0 0)), some (.ref (ad G 22 0 0)), some (.int x3), some (.int x4), some (.int x5), some (.int x6), some (.int x7), some (.int ((11 : Int32) * x7)), some (.int v28), some (.int v30), none] [.int v74, .int r72]) h (fun v74 h => ?_) (fun k75 hk75 h => ?_)
                · refine v_icmp_ne C dL_areLoans_127 (tgt := 184) (by decide) h (fun h => ?_) (fun h => ?_)
                  · refine v_mask [true, true, true, true, true, true, true, true, true, true, true, true, false] (lc' := [some (.ref (ad G 9 0 0)), some (.ref (ad G 19 0 0)), some (.ref (ad G 21 0 0)), some (.ref (ad G 22 0 0)), some (.int x3), some (.int x4), some (.int x5), some (.int x6), some (.int x7), some (.int ((11 : Int32) * x7)), some (.int v28), some (.int v30), none]) rfl ?_
                    exact hk69 _ h
                  · refine v_aload_n C dL_areLoans_130 rfl rfl ?_
                    refine v_iload C dL_areLoans_131 rfl ?_
                    refine v_iconst C dL_areLoans_133 ki_3 ?_
                    refine cVi C 9 0 0 (av := [.int x7, .int (3 : Int32)]) si_X9_loan lk_L_19 (ok9) rfl rfl rfl rfl (st := []) rfl (Nat.le_of_ble_eq_true rfl) dL_areLoans_134 h (fun _ _ hc => s_X9_loan (d := d) x7 (3 : Int32)  hc) (fun r76 σ77 h => ?_)
                    refine v_aload_n C dL_areLoans_137 rfl rfl ?_
                    refine v_iload C dL_areLoans_138 rfl ?_
                    refine v_iconst C dL_areLoans_140 ki_5 ?_
                    refine v_iadd C dL_areLoans_141 ?_
                    refine ld_21 C dL_areLoans_142 h (fun h => ?_)
                    refine v_icmp_ne C dL_areLoans_143 (tgt := 184) (by decide) h (fun h => ?_) (fun h => ?_)
                    · refine v_mask [true, true, true, true, true, true, true, true, true, true, true, true, false] (lc' := [some (.ref (ad G 9 0 0)), some (.ref (ad G 19 0 0)), some (.ref (ad G 21 0 0)), some (.ref (ad G 22 0 0)), some (.int x3), some (.int x4), some (.int x5), some (.int x6), some (.int x7), some (.int ((11 : Int32) * x7)), some (.int v28), some (.int v30), none]) rfl ?_
                      exact hk69 _ h
                    · refine v_aload_n C dL_areLoans_146 rfl rfl ?_
                      refine v_iload C dL_areLoans_147 rfl ?_
                      refine v_iconst C dL_areLoans_149 ki_4 ?_
                      refine cVi C 9 0 0 (av := [.int x7, .int (4 : Int32)]) si_X9_loan lk_L_19 (ok9) rfl rfl rfl rfl (st := []) rfl (Nat.le_of_ble_eq_true rfl) dL_areLoans_150 h (fun _ _ hc => s_X9_loan (d := d) x7 (4 : Int32)  hc) (fun r78 σ79 h => ?_)
                      refine v_aload_n C dL_areLoans_153 rfl rfl ?_
                      refine v_iload C dL_areLoans_154 rfl ?_
                      refine v_bipush C dL_areLoans_156 kb_6 ?_
                      refine v_iadd C dL_areLoans_158 ?_
                      refine ld_21 C dL_areLoans_159 h (fun h => ?_)
                      refine v_icmp_ne C dL_areLoans_160 (tgt := 184) (by decide) h (fun h => ?_) (fun h => ?_)
                      · refine v_mask [true, true, true, true, true, true, true, true, true, true, true, true, false] (lc' := [some (.ref (ad G 9 0 0)), some (.ref (ad G 19 0 0)), some (.ref (ad G 21 0 0)), some (.ref (ad G 22 0 0)), some (.int x3), some (.int x4), some (.int x5), some (.int x6), some (.int x7), some (.int ((11 : Int32) * x7)), some (.int v28), some (.int v30), none]) rfl ?_
                        exact hk69 _ h
                      · refine v_aload_n C dL_areLoans_163 rfl rfl ?_
                        refine v_iload C dL_areLoans_164 rfl ?_
                        refine v_iconst C dL_areLoans_166 ki_5 ?_
                        refine cVi C 9 0 0 (av := [.int x7, .int (5 : Int32)]) si_X9_loan lk_L_19 (ok9) rfl rfl rfl rfl (st := []) rfl (Nat.le_of_ble_eq_true rfl) dL_areLoans_167 h (fun _ _ hc => s_X9_loan (d := d) x7 (5 : Int32)  hc) (fun r80 σ81 h => ?_)
                        refine v_aload_n C dL_areLoans_170 rfl rfl ?_
                        refine v_iload C dL_areLoans_171 rfl ?_
                        refine v_bipush C dL_areLoans_173 kb_7 ?_
                        refine v_iadd C dL_areLoans_175 ?_
                        refine ld_21 C dL_areLoans_176 h (fun h => ?_)
                        refine v_icmp_ne C dL_areLoans_177 (tgt := 184) (by decide) h (fun h => ?_) (fun h => ?_)
                        · refine v_mask [true, true, true, true, true, true, true, true, true, true, true, true, false] (lc' := [some (.ref (ad G 9 0 0)), some (.ref (ad G 19 0 0)), some (.ref (ad G 21 0 0)), some (.ref (ad G 22 0 0)), some (.int x3), some (.int x4), some (.int x5), some (.int x6), some (.int x7), some (.int ((11 : Int32) * x7)), some (.int v28), some (.int v30), none]) rfl ?_
                          exact hk69 _ h
                        · refine v_iconst C dL_areLoans_180 ki_1 ?_
                          refine v_goto C dL_areLoans_181 (tgt := 185) (by decide) ?_
                          refine v_mask [true, true, true, true, true, true, true, true, true, true, true, true, false] (lc' := [some (.ref (ad G 9 0 0)), some (.ref (ad G 19 0 0)), some (.ref (ad G 21 0 0)), some (.ref (ad G 22 0 0)), some (.int x3), some (.int x4), some (.int x5), some (.int x6), some (.int x7), some (.int ((11 : Int32) * x7)), some (.int v28), some (.int v30), none]) rfl ?_
                          exact hk37 _ _ h
                · refine v_if_eq C dL_areLoans_114 (tgt := 126) (by decide) h (fun h => ?_) (fun h => ?_)
                  · refine v_iconst C dL_areLoans_126 ki_0 ?_
                    refine v_mask [true, true, true, true, true, true, true, true, true, true, true, true, false] (lc' := [some (.ref (ad G 9 0 0)), some (.ref (ad G 19 0 0)), some (.ref (ad G 21 0 0)), some (.ref (ad G 22 0 0)), some (.int x3), some (.int x4), some (.int x5), some (.int x6), some (.int x7), some (.int ((11 : Int32) * x7)), some (.int v28), some (.int v30), none]) rfl ?_
                    exact hk75 _ h
                  · refine v_aload_n C dL_areLoans_117 rfl rfl ?_
                    refine v_iload C dL_areLoans_118 rfl ?_
                    refine v_iconst C dL_areLoans_120 ki_4 ?_
                    refine v_iadd C dL_areLoans_121 ?_
                    refine ld_21 C dL_areLoans_122 h (fun h => ?_)
                    refine v_goto C dL_areLoans_123 (tgt := 127) (by decide) ?_
                    refine v_mask [true, true, true, true, true, true, true, true, true, true, true, true, false] (lc' := [some (.ref (ad G 9 0 0)), some (.ref (ad G 19 0 0)), some (.ref (ad G 21 0 0)), some (.ref (ad G 22 0 0)), some (.int x3), some (.int x4), some (.int x5), some (.int x6), some (.int x7), some (.int ((11 : Int32) * x7)), some (.int v28), some (.int v30), none]) rfl ?_
                    exact hk75 _ h
      · refine v_if_ne C dL_areLoans_53 (tgt := 72) (by decide) h (fun h => ?_) (fun h => ?_)
        · refine v_iconst C dL_areLoans_72 ki_0 ?_
          refine v_mask [true, true, true, true, true, true, true, true, true, true, true, false, false] (lc' := [some (.ref (ad G 9 0 0)), some (.ref (ad G 19 0 0)), some (.ref (ad G 21 0 0)), some (.ref (ad G 22 0 0)), some (.int x3), some (.int x4), some (.int x5), some (.int x6), some (.int x7), some (.int ((11 : Int32) * x7)), some (.int v28), none, none]) rfl ?_
          exact hk32 _ _ h
        · refine v_aload_n C dL_areLoans_56 rfl rfl ?_
          refine v_iload C dL_areLoans_57 rfl ?_
          refine ld_21 C dL_areLoans_59 h (fun h => ?_)
          refine v_aload_n C dL_areLoans_60 rfl rfl ?_
          refine v_aload_n C dL_areLoans_61 rfl rfl ?_
          refine v_iload C dL_areLoans_62 rfl ?_
          refine v_iconst C dL_areLoans_64 ki_m1 ?_
          refine cSi C (av := [.ref (ad G 19 0 0), .ref (ad G 22 0 0), .int x7, .int (-1 : Int32)]) si_L_principals lk_L_9 rfl rfl (st := [.int (σ2.1 336 0 ((11 : Int32) * x7).toNatClampNeg)]) rfl (Nat.le_of_ble_eq_true rfl) dL_areLoans_65 h (fun _ _ hc => s_L_principals (d := (d + 2)) x7 (-1 : Int32)  hc) (fun r82 σ83 h => ?_)
          refine v_isub C dL_areLoans_68 ?_
          refine v_goto C dL_areLoans_69 (tgt := 73) (by decide) ?_
          refine v_mask [true, true, true, true, true, true, true, true, true, true, true, false, false] (lc' := [some (.ref (ad G 9 0 0)), some (.ref (ad G 19 0 0)), some (.ref (ad G 21 0 0)), some (.ref (ad G 22 0 0)), some (.int x3), some (.int x4), some (.int x5), some (.int x6), some (.int x7), some (.int ((11 : Int32) * x7)), some (.int v28), none, none]) rfl ?_
          exact hk32 _ _ h
    · refine v_icmp_ne C dL_areLoans_37 (tgt := 44) (by decide) h (fun h => ?_) (fun h => ?_)
      · refine v_iconst C dL_areLoans_44 ki_0 ?_
        refine v_mask [true, true, true, true, true, true, true, true, true, true, false, false, false] (lc' := [some (.ref (ad G 9 0 0)), some (.ref (ad G 19 0 0)), some (.ref (ad G 21 0 0)), some (.ref (ad G 22 0 0)), some (.int x3), some (.int x4), some (.int x5), some (.int x6), some (.int x7), some (.int ((11 : Int32) * x7)), none, none, none]) rfl ?_
        exact hk29 _ h
      · refine v_iconst C dL_areLoans_40 ki_1 ?_
        refine v_goto C dL_areLoans_41 (tgt := 45) (by decide) ?_
        refine v_mask [true, true, true, true, true, true, true, true, true, true, false, false, false] (lc' := [some (.ref (ad G 9 0 0)), some (.ref (ad G 19 0 0)), some (.ref (ad G 21 0 0)), some (.ref (ad G 22 0 0)), some (.int x3), some (.int x4), some (.int x5), some (.int x6), some (.int x7), some (.int ((11 : Int32) * x7)), none, none, none]) rfl ?_
        exact hk29 _ h
