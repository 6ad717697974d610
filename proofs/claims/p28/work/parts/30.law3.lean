/-! by program (wip/p28/walk.py): L_isPaid L_isSold -/
def dc_L_isPaid (a6 : Int32) (σ : Sto) : Option (Int32 × Sto) :=
  (if inb (1 : Int32) 9 then (bd (dc_L_low a6 (σ.1 304 0 (1 : Int32).toNatClampNeg) σ) fun r1 σ2 => (if inb (((11 : Int32) * r1) + (6 : Int32)) 44 then (if inb (((11 : Int32) * r1) + (4 : Int32)) 44 then (if inb (((11 : Int32) * r1) + (9 : Int32)) 44 then (bd (dc_L_low (a6 >>> ((3 : Int32) &&& 31)) (5 : Int32) σ2) fun r3 σ4 => jn (fun (v5 : Int32) (σ6 : Sto) => (bd (dc_L_fee (σ2.1 336 0 (((11 : Int32) * r1) + (9 : Int32)).toNatClampNeg) σ6) fun r8 σ9 => (if inb (((11 : Int32) * r1) + (3 : Int32)) 44 then jn (jn (fun (σ11 : Sto) => (bd (dc_X9_pay r1 (0 : Int32) σ11) fun r13 σ14 => (if r13 = (-2 : Int32) then (if inb (1 : Int32) 9 then (bd (dc_X9_pay (σ14.1 304 0 (1 : Int32).toNatClampNeg) (0 : Int32) σ14) fun r15 σ16 => (if r15 = (-1 : Int32) then some ((1 : Int32), σ16) else some ((0 : Int32), σ16))) else none) else some ((0 : Int32), σ14)))) (fun k12 => (if v5 ≤ (199999 : Int32) then (bd (dc_X9_pay r1 v5 σ9) fun r17 σ18 => (if r17 = (-4 : Int32) then (bd (dc_X9_split r1 v5 (0 : Int32) σ18) fun r19 σ20 => (if r19 = (-4 : Int32) then k12 σ20 else some ((0 : Int32), σ20))) else some ((0 : Int32), σ18))) else (bd (dc_X9_pay r1 v5 σ9) fun r21 σ22 => (if r21 = (-2 : Int32) then k12 σ22 else some ((0 : Int32), σ22)))))) (fun k10 => (if (σ9.1 336 0 (((11 : Int32) * r1) + (3 : Int32)).toNatClampNeg) = (1 : Int32) then (if ((σ2.1 336 0 (((11 : Int32) * r1) + (6 : Int32)).toNatClampNeg) + (σ2.1 336 0 (((11 : Int32) * r1) + (4 : Int32)).toNatClampNeg)) < (v5 - (((v5.toInt64 * r8.toInt64) / (1000 : Int64)).toInt32)) then k10  else (if v5 ≤ (199999 : Int32) then (if inb (((11 : Int32) * r1) + (6 : Int32)) 44 then jn (fun (v23 : Int32) => (if inb (4 : Int32) 9 then (bd (dc_L_principals r1 (0 : Int32) σ9) fun r25 σ26 => jn (fun (v27 : Int32) => (bd (dc_X9_split r1 v5 (0 : Int32) σ26) fun r29 σ30 => (if r29 = (((v5.toInt64 * r8.toInt64) / (1000 : Int64)).toInt32) then (bd (dc_X9_split r1 v5 (1 : Int32) σ30) fun r31 σ32 => (if r31 = v23 then (bd (dc_X9_split r1 v5 (2 : Int32) σ32) fun r33 σ34 => (if r33 = (((v23.toInt64 * ((σ9.1 304 0 (4 : Int32).toNatClampNeg).toInt64)) / (100 : Int64)).toInt32) then (bd (dc_X9_split r1 v5 (3 : Int32) σ34) fun r35 σ36 => (if r35 = ((v5 - (((v5.toInt64 * r8.toInt64) / (1000 : Int64)).toInt32)) - v23) then (bd (dc_X9_split r1 v5 (4 : Int32) σ36) fun r37 σ38 => (if r37 = v27 then (bd (dc_X9_split r1 v5 (5 : Int32) σ38) fun r39 σ40 => (if r39 = (((v5 - (((v5.toInt64 * r8.toInt64) / (1000 : Int64)).toInt32)) - v23) - v27) then (if inb ((5 : Int32) + (σ2.1 336 0 (((11 : Int32) * r1) + (9 : Int32)).toNatClampNeg)) 9 then (if inb ((5 : Int32) + (σ2.1 336 0 (((11 : Int32) * r1) + (9 : Int32)).toNatClampNeg)) 9 then (if inb (3 : Int32) 9 then (if inb (3 : Int32) 9 then (lt (up (up σ40 304 0 ((5 : Int32) + (σ2.1 336 0 (((11 : Int32) * r1) + (9 : Int32)).toNatClampNeg)).toNatClampNeg ((σ40.1 304 0 ((5 : Int32) + (σ2.1 336 0 (((11 : Int32) * r1) + (9 : Int32)).toNatClampNeg)).toNatClampNeg) + (((v5.toInt64 * r8.toInt64) / (1000 : Int64)).toInt32))) 304 0 (3 : Int32).toNatClampNeg (((up σ40 304 0 ((5 : Int32) + (σ2.1 336 0 (((11 : Int32) * r1) + (9 : Int32)).toNatClampNeg)).toNatClampNeg ((σ40.1 304 0 ((5 : Int32) + (σ2.1 336 0 (((11 : Int32) * r1) + (9 : Int32)).toNatClampNeg)).toNatClampNeg) + (((v5.toInt64 * r8.toInt64) / (1000 : Int64)).toInt32))).1 304 0 (3 : Int32).toNatClampNeg) + (((v23.toInt64 * ((σ9.1 304 0 (4 : Int32).toNatClampNeg).toInt64)) / (100 : Int64)).toInt32))) fun σ41 => (bv (dc_L_share r1 (-1 : Int32) (v23 - (((v23.toInt64 * ((σ9.1 304 0 (4 : Int32).toNatClampNeg).toInt64)) / (100 : Int64)).toInt32)) σ41) fun σ43 => wh1 (fun (rec44 : Int32 → Sto → Option (Int32 × Sto)) (x46 : Int32) (σ45 : Sto) => (if inb (2 : Int32) 9 then (if (σ45.1 304 0 (2 : Int32).toNatClampNeg) ≤ x46 then (bd (dc_L_repays r1 (0 : Int32) ((v5 - (((v5.toInt64 * r8.toInt64) / (1000 : Int64)).toInt32)) - v23) σ45) fun r47 σ48 => (bd (dc_L_repays r1 (1 : Int32) r47 σ48) fun r49 σ50 => (if r49 = 0 then (if inb (((11 : Int32) * r1) + (6 : Int32)) 44 then (if inb (((11 : Int32) * r1) + (6 : Int32)) 44 then (if inb (((11 : Int32) * r1) + (4 : Int32)) 44 then (if inb (((11 : Int32) * r1) + (4 : Int32)) 44 then (lt (up (up σ50 336 0 (((11 : Int32) * r1) + (6 : Int32)).toNatClampNeg ((σ50.1 336 0 (((11 : Int32) * r1) + (6 : Int32)).toNatClampNeg) - v23)) 336 0 (((11 : Int32) * r1) + (4 : Int32)).toNatClampNeg (((up σ50 336 0 (((11 : Int32) * r1) + (6 : Int32)).toNatClampNeg ((σ50.1 336 0 (((11 : Int32) * r1) + (6 : Int32)).toNatClampNeg) - v23)).1 336 0 (((11 : Int32) * r1) + (4 : Int32)).toNatClampNeg) - ((v5 - (((v5.toInt64 * r8.toInt64) / (1000 : Int64)).toInt32)) - v23))) fun σ51 => (if inb (((11 : Int32) * r1) + (7 : Int32)) 44 then jn (fun (v52 : Int32) => (if inb (((11 : Int32) * r1) + (7 : Int32)) 44 then (if inb (((11 : Int32) * r1) + (6 : Int32)) 44 then jn (fun (v54 : Int32) => (if inb (((11 : Int32) * r1) + (8 : Int32)) 44 then (lt (up (up σ51 336 0 (((11 : Int32) * r1) + (7 : Int32)).toNatClampNeg v52) 336 0 (((11 : Int32) * r1) + (8 : Int32)).toNatClampNeg v54) fun σ56 => (if inb (((11 : Int32) * r1) + (4 : Int32)) 44 then jn (fun (v57 : Int32) => (if inb (((11 : Int32) * r1) + (3 : Int32)) 44 then (if inb (((11 : Int32) * r1) + (3 : Int32)) 44 then jn (fun (v59 : Int32) => (if inb (((11 : Int32) * r1) + (10 : Int32)) 44 then (lt (up (up σ56 336 0 (((11 : Int32) * r1) + (3 : Int32)).toNatClampNeg v57) 336 0 (((11 : Int32) * r1) + (10 : Int32)).toNatClampNeg v59) fun σ61 => (bd (dc_X9_pay r1 v5 σ61) fun r62 σ63 => (if inb (((11 : Int32) * r1) + (4 : Int32)) 44 then (if r62 = (σ63.1 336 0 (((11 : Int32) * r1) + (4 : Int32)).toNatClampNeg) then some ((1 : Int32), σ63) else some ((0 : Int32), σ63)) else none))) else none)) (fun k60 => (if ((up σ56 336 0 (((11 : Int32) * r1) + (3 : Int32)).toNatClampNeg v57).1 336 0 (((11 : Int32) * r1) + (3 : Int32)).toNatClampNeg) = (2 : Int32) then k60 (-5 : Int32) else (if inb (((11 : Int32) * r1) + (10 : Int32)) 44 then k60 ((up σ56 336 0 (((11 : Int32) * r1) + (3 : Int32)).toNatClampNeg v57).1 336 0 (((11 : Int32) * r1) + (10 : Int32)).toNatClampNeg) else none))) else none) else none)) (fun k58 => jn (k58 (1 : Int32)) (fun k64 => (if (σ56.1 336 0 (((11 : Int32) * r1) + (4 : Int32)).toNatClampNeg) = 0 then (if inb (((11 : Int32) * r1) + (6 : Int32)) 44 then (if (σ56.1 336 0 (((11 : Int32) * r1) + (6 : Int32)).toNatClampNeg) = 0 then k58 (2 : Int32) else k64 ) else none) else k64 ))) else none)) else none)) (fun k55 => jn ((if inb (((11 : Int32) * r1) + (8 : Int32)) 44 then k55 ((up σ51 336 0 (((11 : Int32) * r1) + (7 : Int32)).toNatClampNeg v52).1 336 0 (((11 : Int32) * r1) + (8 : Int32)).toNatClampNeg) else none)) (fun k65 => (if ((up σ51 336 0 (((11 : Int32) * r1) + (7 : Int32)).toNatClampNeg v52).1 336 0 (((11 : Int32) * r1) + (6 : Int32)).toNatClampNeg) = 0 then (if inb (((11 : Int32) * r1) + (7 : Int32)) 44 then (if ((up σ51 336 0 (((11 : Int32) * r1) + (7 : Int32)).toNatClampNeg v52).1 336 0 (((11 : Int32) * r1) + (7 : Int32)).toNatClampNeg) = 0 then k55 (0 : Int32) else k65 ) else none) else k65 ))) else none) else none)) (fun k53 => (if ((v5 - (((v5.toInt64 * r8.toInt64) / (1000 : Int64)).toInt32)) - v23) ≤ (σ51.1 336 0 (((11 : Int32) * r1) + (7 : Int32)).toNatClampNeg) then (if inb (((11 : Int32) * r1) + (7 : Int32)) 44 then k53 ((σ51.1 336 0 (((11 : Int32) * r1) + (7 : Int32)).toNatClampNeg) - ((v5 - (((v5.toInt64 * r8.toInt64) / (1000 : Int64)).toInt32)) - v23)) else none) else k53 (0 : Int32))) else none)) else none) else none) else none) else none) else some ((0 : Int32), σ50)))) else (if inb ((6 : Int32) * x46) 60 then (if inb ((3 : Int32) * (σ45.1 352 0 ((6 : Int32) * x46).toNatClampNeg)) 9 then (if inb x46 10 then (if inb ((3 : Int32) * (σ45.1 352 0 ((6 : Int32) * x46).toNatClampNeg)) 9 then (if inb ((6 : Int32) * x46) 60 then (if inb (((3 : Int32) * ((up σ45 320 0 ((3 : Int32) * (σ45.1 352 0 ((6 : Int32) * x46).toNatClampNeg)).toNatClampNeg ((σ45.1 320 0 ((3 : Int32) * (σ45.1 352 0 ((6 : Int32) * x46).toNatClampNeg)).toNatClampNeg) + (σ45.1 384 0 x46.toNatClampNeg))).1 352 0 ((6 : Int32) * x46).toNatClampNeg)) + (1 : Int32)) 9 then (if inb x46 10 then (if inb (((3 : Int32) * ((up σ45 320 0 ((3 : Int32) * (σ45.1 352 0 ((6 : Int32) * x46).toNatClampNeg)).toNatClampNeg ((σ45.1 320 0 ((3 : Int32) * (σ45.1 352 0 ((6 : Int32) * x46).toNatClampNeg)).toNatClampNeg) + (σ45.1 384 0 x46.toNatClampNeg))).1 352 0 ((6 : Int32) * x46).toNatClampNeg)) + (1 : Int32)) 9 then (lt (up (up σ45 320 0 ((3 : Int32) * (σ45.1 352 0 ((6 : Int32) * x46).toNatClampNeg)).toNatClampNeg ((σ45.1 320 0 ((3 : Int32) * (σ45.1 352 0 ((6 : Int32) * x46).toNatClampNeg)).toNatClampNeg) + (σ45.1 384 0 x46.toNatClampNeg))) 320 0 (((3 : Int32) * ((up σ45 320 0 ((3 : Int32) * (σ45.1 352 0 ((6 : Int32) * x46).toNatClampNeg)).toNatClampNeg ((σ45.1 320 0 ((3 : Int32) * (σ45.1 352 0 ((6 : Int32) * x46).toNatClampNeg)).toNatClampNeg) + (σ45.1 384 0 x46.toNatClampNeg))).1 352 0 ((6 : Int32) * x46).toNatClampNeg)) + (1 : Int32)).toNatClampNeg (((up σ45 320 0 ((3 : Int32) * (σ45.1 352 0 ((6 : Int32) * x46).toNatClampNeg)).toNatClampNeg ((σ45.1 320 0 ((3 : Int32) * (σ45.1 352 0 ((6 : Int32) * x46).toNatClampNeg)).toNatClampNeg) + (σ45.1 384 0 x46.toNatClampNeg))).1 320 0 (((3 : Int32) * ((up σ45 320 0 ((3 : Int32) * (σ45.1 352 0 ((6 : Int32) * x46).toNatClampNeg)).toNatClampNeg ((σ45.1 320 0 ((3 : Int32) * (σ45.1 352 0 ((6 : Int32) * x46).toNatClampNeg)).toNatClampNeg) + (σ45.1 384 0 x46.toNatClampNeg))).1 352 0 ((6 : Int32) * x46).toNatClampNeg)) + (1 : Int32)).toNatClampNeg) + ((up σ45 320 0 ((3 : Int32) * (σ45.1 352 0 ((6 : Int32) * x46).toNatClampNeg)).toNatClampNeg ((σ45.1 320 0 ((3 : Int32) * (σ45.1 352 0 ((6 : Int32) * x46).toNatClampNeg)).toNatClampNeg) + (σ45.1 384 0 x46.toNatClampNeg))).1 384 0 x46.toNatClampNeg))) fun σ66 => (if inb (((6 : Int32) * x46) + (4 : Int32)) 60 then (if inb x46 10 then (if inb (((6 : Int32) * x46) + (4 : Int32)) 60 then rec44 (x46 + 1) (up σ66 352 0 (((6 : Int32) * x46) + (4 : Int32)).toNatClampNeg ((σ66.1 352 0 (((6 : Int32) * x46) + (4 : Int32)).toNatClampNeg) + (σ66.1 384 0 x46.toNatClampNeg))) else none) else none) else none)) else none) else none) else none) else none) else none) else none) else none) else none)) else none)) FU (0 : Int32) σ43)) else none) else none) else none) else none) else some ((0 : Int32), σ40))) else some ((0 : Int32), σ38))) else some ((0 : Int32), σ36))) else some ((0 : Int32), σ34))) else some ((0 : Int32), σ32))) else some ((0 : Int32), σ30)))) (fun k28 => (if r25 ≤ ((v5 - (((v5.toInt64 * r8.toInt64) / (1000 : Int64)).toInt32)) - v23) then k28 r25 else k28 ((v5 - (((v5.toInt64 * r8.toInt64) / (1000 : Int64)).toInt32)) - v23)))) else none)) (fun k24 => (if (σ9.1 336 0 (((11 : Int32) * r1) + (6 : Int32)).toNatClampNeg) ≤ (v5 - (((v5.toInt64 * r8.toInt64) / (1000 : Int64)).toInt32)) then (if inb (((11 : Int32) * r1) + (6 : Int32)) 44 then k24 (σ9.1 336 0 (((11 : Int32) * r1) + (6 : Int32)).toNatClampNeg) else none) else k24 (v5 - (((v5.toInt64 * r8.toInt64) / (1000 : Int64)).toInt32)))) else none) else k10 )) else k10 )) else none))) (fun k7 => jn ((bd (dc_L_low (a6 >>> ((6 : Int32) &&& 31)) (500 : Int32) σ4) fun r68 σ69 => k7 ((1 : Int32) + r68) σ69)) (fun k67 => (if r3 = 0 then (if inb (((11 : Int32) * r1) + (3 : Int32)) 44 then (if (σ4.1 336 0 (((11 : Int32) * r1) + (3 : Int32)).toNatClampNeg) = (1 : Int32) then (bd (dc_X9_toRepay r1 σ4) fun r70 σ71 => k7 r70 σ71) else k67 ) else none) else k67 )))) else none) else none) else none)) else none)
set_option maxRecDepth 20000 in
set_option maxHeartbeats 4000000 in
theorem s_L_isPaid {G : Gm} {d : Nat} (a6 : Int32) {σ τ : Sto} {r : Int32} (h : dc_L_isPaid a6 σ = some (r, τ)) : Cl G (d + 4) m_L_isPaid [.ref (ad G 9 0 0), .ref (ad G 19 0 0), .ref (ad G 20 0 0), .ref (ad G 21 0 0), .ref (ad G 22 0 0), .ref (ad G 24 0 0), .int a6] σ (some (.int r)) τ := by
  unfold dc_L_isPaid at h
  refine Cl.mk (cc := cL_isPaid) (own := RL) (nL := 19) (ret := (some .boolean)) rfl rfl rfl rfl (by decide +kernel) (catA rfl) (Nat.le_of_ble_eq_true rfl) (fun X C => ?_)
  show V X G 0 0 (QE X G (some (.int r)) τ) σ 0 [some (.ref (ad G 9 0 0)), some (.ref (ad G 19 0 0)), some (.ref (ad G 20 0 0)), some (.ref (ad G 21 0 0)), some (.ref (ad G 22 0 0)), some (.ref (ad G 24 0 0)), some (.int a6), none, none, none, none, none, none, none, none, none, none, none, none] []
  refine v_iload C dL_isPaid_0 rfl ?_
  refine v_aload_n C dL_isPaid_2 rfl rfl ?_
  refine v_iconst C dL_isPaid_3 ki_1 ?_
  refine ld_19 C dL_isPaid_4 h (fun h => ?_)
  refine cSi C (av := [.int a6, .int (σ.1 304 0 (1 : Int32).toNatClampNeg)]) si_L_low lk_L_41 rfl rfl (st := []) rfl (Nat.le_of_ble_eq_true rfl) dL_isPaid_5 h (fun _ _ hc => s_L_low (d := (d + 3)) a6 (σ.1 304 0 (1 : Int32).toNatClampNeg)  hc) (fun r1 σ2 h => ?_)
  refine v_istore C dL_isPaid_8 (Nat.le_of_ble_eq_true rfl) (lc1 := [some (.ref (ad G 9 0 0)), some (.ref (ad G 19 0 0)), some (.ref (ad G 20 0 0)), some (.ref (ad G 21 0 0)), some (.ref (ad G 22 0 0)), some (.ref (ad G 24 0 0)), some (.int a6), some (.int r1), none, none, none, none, none, none, none, none, none, none, none]) rfl ?_
  refine v_bipush C dL_isPaid_10 kb_11 ?_
  refine v_iload C dL_isPaid_12 rfl ?_
  refine v_imul C dL_isPaid_14 ?_
  refine v_istore C dL_isPaid_15 (Nat.le_of_ble_eq_true rfl) (lc1 := [some (.ref (ad G 9 0 0)), some (.ref (ad G 19 0 0)), some (.ref (ad G 20 0 0)), some (.ref (ad G 21 0 0)), some (.ref (ad G 22 0 0)), some (.ref (ad G 24 0 0)), some (.int a6), some (.int r1), some (.int ((11 : Int32) * r1)), none, none, none, none, none, none, none, none, none, none]) rfl ?_
  refine v_aload_n C dL_isPaid_17 rfl rfl ?_
  refine v_iload C dL_isPaid_18 rfl ?_
  refine v_bipush C dL_isPaid_20 kb_6 ?_
  refine v_iadd C dL_isPaid_22 ?_
  refine ld_21 C dL_isPaid_23 h (fun h => ?_)
  refine v_aload_n C dL_isPaid_24 rfl rfl ?_
  refine v_iload C dL_isPaid_25 rfl ?_
  refine v_iconst C dL_isPaid_27 ki_4 ?_
  refine v_iadd C dL_isPaid_28 ?_
  refine ld_21 C dL_isPaid_29 h (fun h => ?_)
  refine v_iadd C dL_isPaid_30 ?_
  refine v_istore C dL_isPaid_31 (Nat.le_of_ble_eq_true rfl) (lc1 := [some (.ref (ad G 9 0 0)), some (.ref (ad G 19 0 0)), some (.ref (ad G 20 0 0)), some (.ref (ad G 21 0 0)), some (.ref (ad G 22 0 0)), some (.ref (ad G 24 0 0)), some (.int a6), some (.int r1), some (.int ((11 : Int32) * r1)), some (.int ((σ2.1 336 0 (((11 : Int32) * r1) + (6 : Int32)).toNatClampNeg) + (σ2.1 336 0 (((11 : Int32) * r1) + (4 : Int32)).toNatClampNeg))), none, none, none, none, none, none, none, none, none]) rfl ?_
  refine v_aload_n C dL_isPaid_33 rfl rfl ?_
  refine v_iload C dL_isPaid_34 rfl ?_
  refine v_bipush C dL_isPaid_36 kb_9 ?_
  refine v_iadd C dL_isPaid_38 ?_
  refine ld_21 C dL_isPaid_39 h (fun h => ?_)
  refine v_istore C dL_isPaid_40 (Nat.le_of_ble_eq_true rfl) (lc1 := [some (.ref (ad G 9 0 0)), some (.ref (ad G 19 0 0)), some (.ref (ad G 20 0 0)), some (.ref (ad G 21 0 0)), some (.ref (ad G 22 0 0)), some (.ref (ad G 24 0 0)), some (.int a6), some (.int r1), some (.int ((11 : Int32) * r1)), some (.int ((σ2.1 336 0 (((11 : Int32) * r1) + (6 : Int32)).toNatClampNeg) + (σ2.1 336 0 (((11 : Int32) * r1) + (4 : Int32)).toNatClampNeg))), some (.int (σ2.1 336 0 (((11 : Int32) * r1) + (9 : Int32)).toNatClampNeg)), none, none, none, none, none, none, none, none]) rfl ?_
  refine v_iload C dL_isPaid_42 rfl ?_
  refine v_iconst C dL_isPaid_44 ki_3 ?_
  refine v_ishr C dL_isPaid_45 ?_
  refine v_iconst C dL_isPaid_46 ki_5 ?_
  refine cSi C (av := [.int (a6 >>> ((3 : Int32) &&& 31)), .int (5 : Int32)]) si_L_low lk_L_41 rfl rfl (st := []) rfl (Nat.le_of_ble_eq_true rfl) dL_isPaid_47 h (fun _ _ hc => s_L_low (d := (d + 3)) (a6 >>> ((3 : Int32) &&& 31)) (5 : Int32)  hc) (fun r3 σ4 h => ?_)
  refine v_join (fun k => ∀ (v5 : Int32) (σ6 : Sto), k v5 σ6 = some (r, τ) → V X G 0 0 (QE X G (some (.int r)) τ) σ6 85 [some (.ref (ad G 9 0 0)), some (.ref (ad G 19 0 0)), some (.ref (ad G 20 0 0)), some (.ref (ad G 21 0 0)), some (.ref (ad G 22 0 0)), some (.ref (ad G 24 0 0)), some (.int a6), some (.int r1), some (.int ((11 : Int32) * r1)), some (.int ((σ2.1 336 0 (((11 : Int32) * r1) + (6 : Int32)).toNatClampNeg) + (σ2.1 336 0 (((11 : Int32) * r1) + (4 : Int32)).toNatClampNeg))), some (.int (σ2.1 336 0 (((11 : Int32) * r1) + (9 : Int32)).toNatClampNeg)), none, none, none, none, none, none, none, none] [.int v5]) h (fun v5 σ6 h => ?_) (fun k7 hk7 h => ?_)
  · refine v_istore C dL_isPaid_85 (Nat.le_of_ble_eq_true rfl) (lc1 := [some (.ref (ad G 9 0 0)), some (.ref (ad G 19 0 0)), some (.ref (ad G 20 0 0)), some (.ref (ad G 21 0 0)), some (.ref (ad G 22 0 0)), some (.ref (ad G 24 0 0)), some (.int a6), some (.int r1), some (.int ((11 : Int32) * r1)), some (.int ((σ2.1 336 0 (((11 : Int32) * r1) + (6 : Int32)).toNatClampNeg) + (σ2.1 336 0 (((11 : Int32) * r1) + (4 : Int32)).toNatClampNeg))), some (.int (σ2.1 336 0 (((11 : Int32) * r1) + (9 : Int32)).toNatClampNeg)), some (.int v5), none, none, none, none, none, none, none]) rfl ?_
    refine v_iload C dL_isPaid_87 rfl ?_
    refine v_i2l C dL_isPaid_89 ?_
    refine v_iload C dL_isPaid_90 rfl ?_
    refine cSi C (av := [.int (σ2.1 336 0 (((11 : Int32) * r1) + (9 : Int32)).toNatClampNeg)]) si_L_fee lk_L_38 rfl rfl (st := [.long v5.toInt64]) rfl (Nat.le_of_ble_eq_true rfl) dL_isPaid_92 h (fun _ _ hc => s_L_fee (d := (d + 3)) (σ2.1 336 0 (((11 : Int32) * r1) + (9 : Int32)).toNatClampNeg)  hc) (fun r8 σ9 h => ?_)
    refine v_i2l C dL_isPaid_95 ?_
    refine v_lmul C dL_isPaid_96 ?_
    refine v_ldc2 C dL_isPaid_97 lk_L_51 ?_
    refine v_ldiv C dL_isPaid_100 (by decide) ?_
    refine v_l2i C dL_isPaid_101 ?_
    refine v_istore C dL_isPaid_102 (Nat.le_of_ble_eq_true rfl) (lc1 := [some (.ref (ad G 9 0 0)), some (.ref (ad G 19 0 0)), some (.ref (ad G 20 0 0)), some (.ref (ad G 21 0 0)), some (.ref (ad G 22 0 0)), some (.ref (ad G 24 0 0)), some (.int a6), some (.int r1), some (.int ((11 : Int32) * r1)), some (.int ((σ2.1 336 0 (((11 : Int32) * r1) + (6 : Int32)).toNatClampNeg) + (σ2.1 336 0 (((11 : Int32) * r1) + (4 : Int32)).toNatClampNeg))), some (.int (σ2.1 336 0 (((11 : Int32) * r1) + (9 : Int32)).toNatClampNeg)), some (.int v5), some (.int (((v5.toInt64 * r8.toInt64) / (1000 : Int64)).toInt32)), none, none, none, none, none, none]) rfl ?_
    refine v_aload_n C dL_isPaid_104 rfl rfl ?_
    refine v_iload C dL_isPaid_105 rfl ?_
    refine v_iconst C dL_isPaid_107 ki_3 ?_
    refine v_iadd C dL_isPaid_108 ?_
    refine ld_21 C dL_isPaid_109 h (fun h => ?_)
    refine v_iconst C dL_isPaid_110 ki_1 ?_
    refine v_join (fun k => k = some (r, τ) → V X G 0 0 (QE X G (some (.int r)) τ) σ9 131 [some (.ref (ad G 9 0 0)), some (.ref (ad G 19 0 0)), some (.ref (ad G 20 0 0)), some (.ref (ad G 21 0 0)), some (.ref (ad G 22 0 0)), some (.ref (ad G 24 0 0)), some (.int a6), some (.int r1), some (.int ((11 : Int32) * r1)), some (.int ((σ2.1 336 0 (((11 : Int32) * r1) + (6 : Int32)).toNatClampNeg) + (σ2.1 336 0 (((11 : Int32) * r1) + (4 : Int32)).toNatClampNeg))), some (.int (σ2.1 336 0 (((11 : Int32) * r1) + (9 : Int32)).toNatClampNeg)), some (.int v5), some (.int (((v5.toInt64 * r8.toInt64) / (1000 : Int64)).toInt32)), none, none, none, none, none, none] []) h (fun h => ?_) (fun k10 hk10 h => ?_)
    · refine v_iload C dL_isPaid_131 rfl ?_
      refine v_ldc C dL_isPaid_133 lk_L_53 ?_
      refine v_join (fun k => ∀ (σ11 : Sto), k σ11 = some (r, τ) → V X G 0 0 (QE X G (some (.int r)) τ) σ11 181 [some (.ref (ad G 9 0 0)), some (.ref (ad G 19 0 0)), some (.ref (ad G 20 0 0)), some (.ref (ad G 21 0 0)), some (.ref (ad G 22 0 0)), some (.ref (ad G 24 0 0)), some (.int a6), some (.int r1), some (.int ((11 : Int32) * r1)), some (.int ((σ2.1 336 0 (((11 : Int32) * r1) + (6 : Int32)).toNatClampNeg) + (σ2.1 336 0 (((11 : Int32) * r1) + (4 : Int32)).toNatClampNeg))), some (.int (σ2.1 336 0 (((11 : Int32) * r1) + (9 : Int32)).toNatClampNeg)), some (.int v5), some (.int (((v5.toInt64 * r8.toInt64) / (1000 : Int64)).toInt32)), none, none, none, none, none, none] []) h (fun σ11 h => ?_) (fun k12 hk12 h => ?_)
      · refine v_aload_n C dL_isPaid_181 rfl rfl ?_
        refine v_iload C dL_isPaid_182 rfl ?_
        refine v_iconst C dL_isPaid_184 ki_0 ?_
        refine cVi C 9 0 0 (av := [.int r1, .int (0 : Int32)]) si_X9_pay lk_L_54 (ok9) rfl rfl rfl rfl (st := []) rfl (Nat.le_of_ble_eq_true rfl) dL_isPaid_185 h (fun _ _ hc => s_X9_pay (d := d) r1 (0 : Int32)  hc) (fun r13 σ14 h => ?_)
        refine v_bipush C dL_isPaid_188 kb_m2 ?_
        refine v_icmp_ne C dL_isPaid_190 (tgt := 209) (by decide) h (fun h => ?_) (fun h => ?_)
        · refine v_iconst C dL_isPaid_209 ki_0 ?_
          exact v_zretc C dL_isPaid_210 (nar01 (Or.inl rfl)) h
        · refine v_aload_n C dL_isPaid_193 rfl rfl ?_
          refine v_aload_n C dL_isPaid_194 rfl rfl ?_
          refine v_iconst C dL_isPaid_195 ki_1 ?_
          refine ld_19 C dL_isPaid_196 h (fun h => ?_)
          refine v_iconst C dL_isPaid_197 ki_0 ?_
          refine cVi C 9 0 0 (av := [.int (σ14.1 304 0 (1 : Int32).toNatClampNeg), .int (0 : Int32)]) si_X9_pay lk_L_54 (ok9) rfl rfl rfl rfl (st := []) rfl (Nat.le_of_ble_eq_true rfl) dL_isPaid_198 h (fun _ _ hc => s_X9_pay (d := d) (σ14.1 304 0 (1 : Int32).toNatClampNeg) (0 : Int32)  hc) (fun r15 σ16 h => ?_)
          refine v_iconst C dL_isPaid_201 ki_m1 ?_
          refine v_icmp_ne C dL_isPaid_202 (tgt := 209) (by decide) h (fun h => ?_) (fun h => ?_)
          · refine v_iconst C dL_isPaid_209 ki_0 ?_
            exact v_zretc C dL_isPaid_210 (nar01 (Or.inl rfl)) h
          · refine v_iconst C dL_isPaid_205 ki_1 ?_
            refine v_goto C dL_isPaid_206 (tgt := 210) (by decide) ?_
            exact v_zretc C dL_isPaid_210 (nar01 (Or.inr rfl)) h
      · refine v_icmp_le C dL_isPaid_135 (tgt := 154) (by decide) h (fun h => ?_) (fun h => ?_)
        · refine v_aload_n C dL_isPaid_154 rfl rfl ?_
          refine v_iload C dL_isPaid_155 rfl ?_
          refine v_iload C dL_isPaid_157 rfl ?_
          refine cVi C 9 0 0 (av := [.int r1, .int v5]) si_X9_pay lk_L_54 (ok9) rfl rfl rfl rfl (st := []) rfl (Nat.le_of_ble_eq_true rfl) dL_isPaid_159 h (fun _ _ hc => s_X9_pay (d := d) r1 v5  hc) (fun r17 σ18 h => ?_)
          refine v_bipush C dL_isPaid_162 kb_m4 ?_
          refine v_icmp_ne C dL_isPaid_164 (tgt := 209) (by decide) h (fun h => ?_) (fun h => ?_)
          · refine v_iconst C dL_isPaid_209 ki_0 ?_
            exact v_zretc C dL_isPaid_210 (nar01 (Or.inl rfl)) h
          · refine v_aload_n C dL_isPaid_167 rfl rfl ?_
            refine v_iload C dL_isPaid_168 rfl ?_
            refine v_iload C dL_isPaid_170 rfl ?_
            refine v_iconst C dL_isPaid_172 ki_0 ?_
            refine cVi C 9 0 0 (av := [.int r1, .int v5, .int (0 : Int32)]) si_X9_split lk_L_57 (ok9) rfl rfl rfl rfl (st := []) rfl (Nat.le_of_ble_eq_true rfl) dL_isPaid_173 h (fun _ _ hc => s_X9_split (d := d) r1 v5 (0 : Int32)  hc) (fun r19 σ20 h => ?_)
            refine v_bipush C dL_isPaid_176 kb_m4 ?_
            refine v_icmp_ne C dL_isPaid_178 (tgt := 209) (by decide) h (fun h => ?_) (fun h => ?_)
            · refine v_iconst C dL_isPaid_209 ki_0 ?_
              exact v_zretc C dL_isPaid_210 (nar01 (Or.inl rfl)) h
            · refine v_mask [true, true, true, true, true, true, true, true, true, true, true, true, true, false, false, false, false, false, false] (lc' := [some (.ref (ad G 9 0 0)), some (.ref (ad G 19 0 0)), some (.ref (ad G 20 0 0)), some (.ref (ad G 21 0 0)), some (.ref (ad G 22 0 0)), some (.ref (ad G 24 0 0)), some (.int a6), some (.int r1), some (.int ((11 : Int32) * r1)), some (.int ((σ2.1 336 0 (((11 : Int32) * r1) + (6 : Int32)).toNatClampNeg) + (σ2.1 336 0 (((11 : Int32) * r1) + (4 : Int32)).toNatClampNeg))), some (.int (σ2.1 336 0 (((11 : Int32) * r1) + (9 : Int32)).toNatClampNeg)), some (.int v5), some (.int (((v5.toInt64 * r8.toInt64) / (1000 : Int64)).toInt32)), none, none, none, none, none, none]) rfl ?_
              exact hk12 _ h
        · refine v_aload_n C dL_isPaid_138 rfl rfl ?_
          refine v_iload C dL_isPaid_139 rfl ?_
          refine v_iload C dL_isPaid_141 rfl ?_
          refine cVi C 9 0 0 (av := [.int r1, .int v5]) si_X9_pay lk_L_54 (ok9) rfl rfl rfl rfl (st := []) rfl (Nat.le_of_ble_eq_true rfl) dL_isPaid_143 h (fun _ _ hc => s_X9_pay (d := d) r1 v5  hc) (fun r21 σ22 h => ?_)
          refine v_bipush C dL_isPaid_146 kb_m2 ?_
          refine v_icmp_ne C dL_isPaid_148 (tgt := 209) (by decide) h (fun h => ?_) (fun h => ?_)
          · refine v_iconst C dL_isPaid_209 ki_0 ?_
            exact v_zretc C dL_isPaid_210 (nar01 (Or.inl rfl)) h
          · refine v_goto C dL_isPaid_151 (tgt := 181) (by decide) ?_
            refine v_mask [true, true, true, true, true, true, true, true, true, true, true, true, true, false, false, false, false, false, false] (lc' := [some (.ref (ad G 9 0 0)), some (.ref (ad G 19 0 0)), some (.ref (ad G 20 0 0)), some (.ref (ad G 21 0 0)), some (.ref (ad G 22 0 0)), some (.ref (ad G 24 0 0)), some (.int a6), some (.int r1), some (.int ((11 : Int32) * r1)), some (.int ((σ2.1 336 0 (((11 : Int32) * r1) + (6 : Int32)).toNatClampNeg) + (σ2.1 336 0 (((11 : Int32) * r1) + (4 : Int32)).toNatClampNeg))), some (.int (σ2.1 336 0 (((11 : Int32) * r1) + (9 : Int32)).toNatClampNeg)), some (.int v5), some (.int (((v5.toInt64 * r8.toInt64) / (1000 : Int64)).toInt32)), none, none, none, none, none, none]) rfl ?_
            exact hk12 _ h
    · refine v_icmp_ne C dL_isPaid_111 (tgt := 131) (by decide) h (fun h => ?_) (fun h => ?_)
      · refine v_mask [true, true, true, true, true, true, true, true, true, true, true, true, true, false, false, false, false, false, false] (lc' := [some (.ref (ad G 9 0 0)), some (.ref (ad G 19 0 0)), some (.ref (ad G 20 0 0)), some (.ref (ad G 21 0 0)), some (.ref (ad G 22 0 0)), some (.ref (ad G 24 0 0)), some (.int a6), some (.int r1), some (.int ((11 : Int32) * r1)), some (.int ((σ2.1 336 0 (((11 : Int32) * r1) + (6 : Int32)).toNatClampNeg) + (σ2.1 336 0 (((11 : Int32) * r1) + (4 : Int32)).toNatClampNeg))), some (.int (σ2.1 336 0 (((11 : Int32) * r1) + (9 : Int32)).toNatClampNeg)), some (.int v5), some (.int (((v5.toInt64 * r8.toInt64) / (1000 : Int64)).toInt32)), none, none, none, none, none, none]) rfl ?_
        exact hk10 h
      · refine v_iload C dL_isPaid_114 rfl ?_
        refine v_iload C dL_isPaid_116 rfl ?_
        refine v_isub C dL_isPaid_118 ?_
        refine v_iload C dL_isPaid_119 rfl ?_
        refine v_icmp_gt C dL_isPaid_121 (tgt := 131) (by decide) h (fun h => ?_) (fun h => ?_)
        · refine v_mask [true, true, true, true, true, true, true, true, true, true, true, true, true, false, false, false, false, false, false] (lc' := [some (.ref (ad G 9 0 0)), some (.ref (ad G 19 0 0)), some (.ref (ad G 20 0 0)), some (.ref (ad G 21 0 0)), some (.ref (ad G 22 0 0)), some (.ref (ad G 24 0 0)), some (.int a6), some (.int r1), some (.int ((11 : Int32) * r1)), some (.int ((σ2.1 336 0 (((11 : Int32) * r1) + (6 : Int32)).toNatClampNeg) + (σ2.1 336 0 (((11 : Int32) * r1) + (4 : Int32)).toNatClampNeg))), some (.int (σ2.1 336 0 (((11 : Int32) * r1) + (9 : Int32)).toNatClampNeg)), some (.int v5), some (.int (((v5.toInt64 * r8.toInt64) / (1000 : Int64)).toInt32)), none, none, none, none, none, none]) rfl ?_
          exact hk10 h
        · refine v_iload C dL_isPaid_124 rfl ?_
          refine v_ldc C dL_isPaid_126 lk_L_53 ?_
          refine v_icmp_le C dL_isPaid_128 (tgt := 211) (by decide) h (fun h => ?_) (fun h => ?_)
          · refine v_iload C dL_isPaid_211 rfl ?_
            refine v_iload C dL_isPaid_213 rfl ?_
            refine v_isub C dL_isPaid_215 ?_
            refine v_aload_n C dL_isPaid_216 rfl rfl ?_
            refine v_iload C dL_isPaid_217 rfl ?_
            refine v_bipush C dL_isPaid_219 kb_6 ?_
            refine v_iadd C dL_isPaid_221 ?_
            refine ld_21 C dL_isPaid_222 h (fun h => ?_)
            refine v_join (fun k => ∀ (v23 : Int32), k v23 = some (r, τ) → V X G 0 0 (QE X G (some (.int r)) τ) σ9 241 [some (.ref (ad G 9 0 0)), some (.ref (ad G 19 0 0)), some (.ref (ad G 20 0 0)), some (.ref (ad G 21 0 0)), some (.ref (ad G 22 0 0)), some (.ref (ad G 24 0 0)), some (.int a6), some (.int r1), some (.int ((11 : Int32) * r1)), some (.int ((σ2.1 336 0 (((11 : Int32) * r1) + (6 : Int32)).toNatClampNeg) + (σ2.1 336 0 (((11 : Int32) * r1) + (4 : Int32)).toNatClampNeg))), some (.int (σ2.1 336 0 (((11 : Int32) * r1) + (9 : Int32)).toNatClampNeg)), some (.int v5), some (.int (((v5.toInt64 * r8.toInt64) / (1000 : Int64)).toInt32)), none, none, none, none, none, none] [.int v23]) h (fun v23 h => ?_) (fun k24 hk24 h => ?_)
            · refine v_istore C dL_isPaid_241 (Nat.le_of_ble_eq_true rfl) (lc1 := [some (.ref (ad G 9 0 0)), some (.ref (ad G 19 0 0)), some (.ref (ad G 20 0 0)), some (.ref (ad G 21 0 0)), some (.ref (ad G 22 0 0)), some (.ref (ad G 24 0 0)), some (.int a6), some (.int r1), some (.int ((11 : Int32) * r1)), some (.int ((σ2.1 336 0 (((11 : Int32) * r1) + (6 : Int32)).toNatClampNeg) + (σ2.1 336 0 (((11 : Int32) * r1) + (4 : Int32)).toNatClampNeg))), some (.int (σ2.1 336 0 (((11 : Int32) * r1) + (9 : Int32)).toNatClampNeg)), some (.int v5), some (.int (((v5.toInt64 * r8.toInt64) / (1000 : Int64)).toInt32)), some (.int v23), none, none, none, none, none]) rfl ?_
              refine v_iload C dL_isPaid_243 rfl ?_
              refine v_i2l C dL_isPaid_245 ?_
              refine v_aload_n C dL_isPaid_246 rfl rfl ?_
              refine v_iconst C dL_isPaid_247 ki_4 ?_
              refine ld_19 C dL_isPaid_248 h (fun h => ?_)
              refine v_i2l C dL_isPaid_249 ?_
              refine v_lmul C dL_isPaid_250 ?_
              refine v_ldc2 C dL_isPaid_251 lk_L_61 ?_
              refine v_ldiv C dL_isPaid_254 (by decide) ?_
              refine v_l2i C dL_isPaid_255 ?_
              refine v_istore C dL_isPaid_256 (Nat.le_of_ble_eq_true rfl) (lc1 := [some (.ref (ad G 9 0 0)), some (.ref (ad G 19 0 0)), some (.ref (ad G 20 0 0)), some (.ref (ad G 21 0 0)), some (.ref (ad G 22 0 0)), some (.ref (ad G 24 0 0)), some (.int a6), some (.int r1), some (.int ((11 : Int32) * r1)), some (.int ((σ2.1 336 0 (((11 : Int32) * r1) + (6 : Int32)).toNatClampNeg) + (σ2.1 336 0 (((11 : Int32) * r1) + (4 : Int32)).toNatClampNeg))), some (.int (σ2.1 336 0 (((11 : Int32) * r1) + (9 : Int32)).toNatClampNeg)), some (.int v5), some (.int (((v5.toInt64 * r8.toInt64) / (1000 : Int64)).toInt32)), some (.int v23), some (.int (((v23.toInt64 * ((σ9.1 304 0 (4 : Int32).toNatClampNeg).toInt64)) / (100 : Int64)).toInt32)), none, none, none, none]) rfl ?_
              refine v_iload C dL_isPaid_258 rfl ?_
              refine v_iload C dL_isPaid_260 rfl ?_
              refine v_isub C dL_isPaid_262 ?_
              refine v_iload C dL_isPaid_263 rfl ?_
              refine v_isub C dL_isPaid_265 ?_
              refine v_istore C dL_isPaid_266 (Nat.le_of_ble_eq_true rfl) (lc1 := [some (.ref (ad G 9 0 0)), some (.ref (ad G 19 0 0)), some (.ref (ad G 20 0 0)), some (.ref (ad G 21 0 0)), some (.ref (ad G 22 0 0)), some (.ref (ad G 24 0 0)), some (.int a6), some (.int r1), some (.int ((11 : Int32) * r1)), some (.int ((σ2.1 336 0 (((11 : Int32) * r1) + (6 : Int32)).toNatClampNeg) + (σ2.1 336 0 (((11 : Int32) * r1) + (4 : Int32)).toNatClampNeg))), some (.int (σ2.1 336 0 (((11 : Int32) * r1) + (9 : Int32)).toNatClampNeg)), some (.int v5), some (.int (((v5.toInt64 * r8.toInt64) / (1000 : Int64)).toInt32)), some (.int v23), some (.int (((v23.toInt64 * ((σ9.1 304 0 (4 : Int32).toNatClampNeg).toInt64)) / (100 : Int64)).toInt32)), some (.int ((v5 - (((v5.toInt64 * r8.toInt64) / (1000 : Int64)).toInt32)) - v23)), none, none, none]) rfl ?_
              refine v_aload_n C dL_isPaid_268 rfl rfl ?_
              refine v_aload C dL_isPaid_269 rfl ?_
              refine v_iload C dL_isPaid_271 rfl ?_
              refine v_iconst C dL_isPaid_273 ki_0 ?_
              refine cSi C (av := [.ref (ad G 19 0 0), .ref (ad G 22 0 0), .int r1, .int (0 : Int32)]) si_L_principals lk_L_9 rfl rfl (st := []) rfl (Nat.le_of_ble_eq_true rfl) dL_isPaid_274 h (fun _ _ hc => s_L_principals (d := (d + 3)) r1 (0 : Int32)  hc) (fun r25 σ26 h => ?_)
              refine v_istore C dL_isPaid_277 (Nat.le_of_ble_eq_true rfl) (lc1 := [some (.ref (ad G 9 0 0)), some (.ref (ad G 19 0 0)), some (.ref (ad G 20 0 0)), some (.ref (ad G 21 0 0)), some (.ref (ad G 22 0 0)), some (.ref (ad G 24 0 0)), some (.int a6), some (.int r1), some (.int ((11 : Int32) * r1)), some (.int ((σ2.1 336 0 (((11 : Int32) * r1) + (6 : Int32)).toNatClampNeg) + (σ2.1 336 0 (((11 : Int32) * r1) + (4 : Int32)).toNatClampNeg))), some (.int (σ2.1 336 0 (((11 : Int32) * r1) + (9 : Int32)).toNatClampNeg)), some (.int v5), some (.int (((v5.toInt64 * r8.toInt64) / (1000 : Int64)).toInt32)), some (.int v23), some (.int (((v23.toInt64 * ((σ9.1 304 0 (4 : Int32).toNatClampNeg).toInt64)) / (100 : Int64)).toInt32)), some (.int ((v5 - (((v5.toInt64 * r8.toInt64) / (1000 : Int64)).toInt32)) - v23)), some (.int r25), none, none]) rfl ?_
              refine v_iload C dL_isPaid_279 rfl ?_
              refine v_iload C dL_isPaid_281 rfl ?_
              refine v_join (fun k => ∀ (v27 : Int32), k v27 = some (r, τ) → V X G 0 0 (QE X G (some (.int r)) τ) σ26 293 [some (.ref (ad G 9 0 0)), some (.ref (ad G 19 0 0)), some (.ref (ad G 20 0 0)), some (.ref (ad G 21 0 0)), some (.ref (ad G 22 0 0)), some (.ref (ad G 24 0 0)), some (.int a6), some (.int r1), some (.int ((11 : Int32) * r1)), some (.int ((σ2.1 336 0 (((11 : Int32) * r1) + (6 : Int32)).toNatClampNeg) + (σ2.1 336 0 (((11 : Int32) * r1) + (4 : Int32)).toNatClampNeg))), some (.int (σ2.1 336 0 (((11 : Int32) * r1) + (9 : Int32)).toNatClampNeg)), some (.int v5), some (.int (((v5.toInt64 * r8.toInt64) / (1000 : Int64)).toInt32)), some (.int v23), some (.int (((v23.toInt64 * ((σ9.1 304 0 (4 : Int32).toNatClampNeg).toInt64)) / (100 : Int64)).toInt32)), some (.int ((v5 - (((v5.toInt64 * r8.toInt64) / (1000 : Int64)).toInt32)) - v23)), some (.int r25), none, none] [.int v27]) h (fun v27 h => ?_) (fun k28 hk28 h => ?_)
              · refine v_istore C dL_isPaid_293 (Nat.le_of_ble_eq_true rfl) (lc1 := [some (.ref (ad G 9 0 0)), some (.ref (ad G 19 0 0)), some (.ref (ad G 20 0 0)), some (.ref (ad G 21 0 0)), some (.ref (ad G 22 0 0)), some (.ref (ad G 24 0 0)), some (.int a6), some (.int r1), some (.int ((11 : Int32) * r1)), some (.int ((σ2.1 336 0 (((11 : Int32) * r1) + (6 : Int32)).toNatClampNeg) + (σ2.1 336 0 (((11 : Int32) * r1) + (4 : Int32)).toNatClampNeg))), some (.int (σ2.1 336 0 (((11 : Int32) * r1) + (9 : Int32)).toNatClampNeg)), some (.int v5), some (.int (((v5.toInt64 * r8.toInt64) / (1000 : Int64)).toInt32)), some (.int v23), some (.int (((v23.toInt64 * ((σ9.1 304 0 (4 : Int32).toNatClampNeg).toInt64)) / (100 : Int64)).toInt32)), some (.int ((v5 - (((v5.toInt64 * r8.toInt64) / (1000 : Int64)).toInt32)) - v23)), some (.int r25), some (.int v27), none]) rfl ?_
                refine v_aload_n C dL_isPaid_295 rfl rfl ?_
                refine v_iload C dL_isPaid_296 rfl ?_
                refine v_iload C dL_isPaid_298 rfl ?_
                refine v_iconst C dL_isPaid_300 ki_0 ?_
                refine cVi C 9 0 0 (av := [.int r1, .int v5, .int (0 : Int32)]) si_X9_split lk_L_57 (ok9) rfl rfl rfl rfl (st := []) rfl (Nat.le_of_ble_eq_true rfl) dL_isPaid_301 h (fun _ _ hc => s_X9_split (d := d) r1 v5 (0 : Int32)  hc) (fun r29 σ30 h => ?_)
                refine v_iload C dL_isPaid_304 rfl ?_
                refine v_icmp_ne C dL_isPaid_306 (tgt := 382) (by decide) h (fun h => ?_) (fun h => ?_)
                · refine v_iconst C dL_isPaid_382 ki_0 ?_
                  exact v_zretc C dL_isPaid_383 (nar01 (Or.inl rfl)) h
                · refine v_aload_n C dL_isPaid_309 rfl rfl ?_
                  refine v_iload C dL_isPaid_310 rfl ?_
                  refine v_iload C dL_isPaid_312 rfl ?_
                  refine v_iconst C dL_isPaid_314 ki_1 ?_
                  refine cVi C 9 0 0 (av := [.int r1, .int v5, .int (1 : Int32)]) si_X9_split lk_L_57 (ok9) rfl rfl rfl rfl (st := []) rfl (Nat.le_of_ble_eq_true rfl) dL_isPaid_315 h (fun _ _ hc => s_X9_split (d := d) r1 v5 (1 : Int32)  hc) (fun r31 σ32 h => ?_)
                  refine v_iload C dL_isPaid_318 rfl ?_
                  refine v_icmp_ne C dL_isPaid_320 (tgt := 382) (by decide) h (fun h => ?_) (fun h => ?_)
                  · refine v_iconst C dL_isPaid_382 ki_0 ?_
                    exact v_zretc C dL_isPaid_383 (nar01 (Or.inl rfl)) h
                  · refine v_aload_n C dL_isPaid_323 rfl rfl ?_
                    refine v_iload C dL_isPaid_324 rfl ?_
                    refine v_iload C dL_isPaid_326 rfl ?_
                    refine v_iconst C dL_isPaid_328 ki_2 ?_
                    refine cVi C 9 0 0 (av := [.int r1, .int v5, .int (2 : Int32)]) si_X9_split lk_L_57 (ok9) rfl rfl rfl rfl (st := []) rfl (Nat.le_of_ble_eq_true rfl) dL_isPaid_329 h (fun _ _ hc => s_X9_split (d := d) r1 v5 (2 : Int32)  hc) (fun r33 σ34 h => ?_)
                    refine v_iload C dL_isPaid_332 rfl ?_
                    refine v_icmp_ne C dL_isPaid_334 (tgt := 382) (by decide) h (fun h => ?_) (fun h => ?_)
                    · refine v_iconst C dL_isPaid_382 ki_0 ?_
                      exact v_zretc C dL_isPaid_383 (nar01 (Or.inl rfl)) h
                    · refine v_aload_n C dL_isPaid_337 rfl rfl ?_
                      refine v_iload C dL_isPaid_338 rfl ?_
                      refine v_iload C dL_isPaid_340 rfl ?_
                      refine v_iconst C dL_isPaid_342 ki_3 ?_
                      refine cVi C 9 0 0 (av := [.int r1, .int v5, .int (3 : Int32)]) si_X9_split lk_L_57 (ok9) rfl rfl rfl rfl (st := []) rfl (Nat.le_of_ble_eq_true rfl) dL_isPaid_343 h (fun _ _ hc => s_X9_split (d := d) r1 v5 (3 : Int32)  hc) (fun r35 σ36 h => ?_)
                      refine v_iload C dL_isPaid_346 rfl ?_
                      refine v_icmp_ne C dL_isPaid_348 (tgt := 382) (by decide) h (fun h => ?_) (fun h => ?_)
                      · refine v_iconst C dL_isPaid_382 ki_0 ?_
                        exact v_zretc C dL_isPaid_383 (nar01 (Or.inl rfl)) h
                      · refine v_aload_n C dL_isPaid_351 rfl rfl ?_
                        refine v_iload C dL_isPaid_352 rfl ?_
                        refine v_iload C dL_isPaid_354 rfl ?_
                        refine v_iconst C dL_isPaid_356 ki_4 ?_
                        refine cVi C 9 0 0 (av := [.int r1, .int v5, .int (4 : Int32)]) si_X9_split lk_L_57 (ok9) rfl rfl rfl rfl (st := []) rfl (Nat.le_of_ble_eq_true rfl) dL_isPaid_357 h (fun _ _ hc => s_X9_split (d := d) r1 v5 (4 : Int32)  hc) (fun r37 σ38 h => ?_)
                        refine v_iload C dL_isPaid_360 rfl ?_
                        refine v_icmp_ne C dL_isPaid_362 (tgt := 382) (by decide) h (fun h => ?_) (fun h => ?_)
                        · refine v_iconst C dL_isPaid_382 ki_0 ?_
                          exact v_zretc C dL_isPaid_383 (nar01 (Or.inl rfl)) h
                        · refine v_aload_n C dL_isPaid_365 rfl rfl ?_
                          refine v_iload C dL_isPaid_366 rfl ?_
                          refine v_iload C dL_isPaid_368 rfl ?_
                          refine v_iconst C dL_isPaid_370 ki_5 ?_
                          refine cVi C 9 0 0 (av := [.int r1, .int v5, .int (5 : Int32)]) si_X9_split lk_L_57 (ok9) rfl rfl rfl rfl (st := []) rfl (Nat.le_of_ble_eq_true rfl) dL_isPaid_371 h (fun _ _ hc => s_X9_split (d := d) r1 v5 (5 : Int32)  hc) (fun r39 σ40 h => ?_)
                          refine v_iload C dL_isPaid_374 rfl ?_
                          refine v_iload C dL_isPaid_376 rfl ?_
                          refine v_isub C dL_isPaid_378 ?_
                          refine v_icmp_eq C dL_isPaid_379 (tgt := 384) (by decide) h (fun h => ?_) (fun h => ?_)
                          · refine v_aload_n C dL_isPaid_384 rfl rfl ?_
                            refine v_iconst C dL_isPaid_385 ki_5 ?_
                            refine v_iload C dL_isPaid_386 rfl ?_
                            refine v_iadd C dL_isPaid_388 ?_
                            refine v_dup2 C dL_isPaid_389 rfl rfl ?_
                            refine ld_19 C dL_isPaid_390 h (fun h => ?_)
                            refine v_iload C dL_isPaid_391 rfl ?_
                            refine v_iadd C dL_isPaid_393 ?_
                            refine as_19 C dL_isPaid_394 h (fun h => ?_)
                            refine v_aload_n C dL_isPaid_395 rfl rfl ?_
                            refine v_iconst C dL_isPaid_396 ki_3 ?_
                            refine v_dup2 C dL_isPaid_397 rfl rfl ?_
                            refine ld_19 C dL_isPaid_398 h (fun h => ?_)
                            refine v_iload C dL_isPaid_399 rfl ?_
                            refine v_iadd C dL_isPaid_401 ?_
                            refine as_19 C dL_isPaid_402 h (fun h => ?_)
                            refine v_lt h (fun σ41 h => ?_)
                            refine v_aload_n C dL_isPaid_403 rfl rfl ?_
                            refine v_aload C dL_isPaid_404 rfl ?_
                            refine v_iload C dL_isPaid_406 rfl ?_
                            refine v_iconst C dL_isPaid_408 ki_m1 ?_
                            refine v_iload C dL_isPaid_409 rfl ?_
                            refine v_iload C dL_isPaid_411 rfl ?_
                            refine v_isub C dL_isPaid_413 ?_
                            refine v_aload C dL_isPaid_414 rfl ?_
                            refine cSv C (av := [.ref (ad G 19 0 0), .ref (ad G 22 0 0), .int r1, .int (-1 : Int32), .int (v23 - (((v23.toInt64 * ((σ9.1 304 0 (4 : Int32).toNatClampNeg).toInt64)) / (100 : Int64)).toInt32)), .ref (ad G 24 0 0)]) si_L_share lk_L_15 rfl rfl (st := []) rfl (Nat.le_of_ble_eq_true rfl) dL_isPaid_416 h (fun _ hc => s_L_share (d := (d + 2)) r1 (-1 : Int32) (v23 - (((v23.toInt64 * ((σ9.1 304 0 (4 : Int32).toNatClampNeg).toInt64)) / (100 : Int64)).toInt32))  hc) (fun σ43 h => ?_)
                            refine v_iconst C dL_isPaid_419 ki_0 ?_
                            refine v_istore C dL_isPaid_420 (Nat.le_of_ble_eq_true rfl) (lc1 := [some (.ref (ad G 9 0 0)), some (.ref (ad G 19 0 0)), some (.ref (ad G 20 0 0)), some (.ref (ad G 21 0 0)), some (.ref (ad G 22 0 0)), some (.ref (ad G 24 0 0)), some (.int a6), some (.int r1), some (.int ((11 : Int32) * r1)), some (.int ((σ2.1 336 0 (((11 : Int32) * r1) + (6 : Int32)).toNatClampNeg) + (σ2.1 336 0 (((11 : Int32) * r1) + (4 : Int32)).toNatClampNeg))), some (.int (σ2.1 336 0 (((11 : Int32) * r1) + (9 : Int32)).toNatClampNeg)), some (.int v5), some (.int (((v5.toInt64 * r8.toInt64) / (1000 : Int64)).toInt32)), some (.int v23), some (.int (((v23.toInt64 * ((σ9.1 304 0 (4 : Int32).toNatClampNeg).toInt64)) / (100 : Int64)).toInt32)), some (.int ((v5 - (((v5.toInt64 * r8.toInt64) / (1000 : Int64)).toInt32)) - v23)), some (.int r25), some (.int v27), some (.int (0 : Int32))]) rfl ?_
                            refine v_loop1 (fun x46 σ45 => V X G 0 0 (QE X G (some (.int r)) τ) σ45 422 [some (.ref (ad G 9 0 0)), some (.ref (ad G 19 0 0)), some (.ref (ad G 20 0 0)), some (.ref (ad G 21 0 0)), some (.ref (ad G 22 0 0)), some (.ref (ad G 24 0 0)), some (.int a6), some (.int r1), some (.int ((11 : Int32) * r1)), some (.int ((σ2.1 336 0 (((11 : Int32) * r1) + (6 : Int32)).toNatClampNeg) + (σ2.1 336 0 (((11 : Int32) * r1) + (4 : Int32)).toNatClampNeg))), some (.int (σ2.1 336 0 (((11 : Int32) * r1) + (9 : Int32)).toNatClampNeg)), some (.int v5), some (.int (((v5.toInt64 * r8.toInt64) / (1000 : Int64)).toInt32)), some (.int v23), some (.int (((v23.toInt64 * ((σ9.1 304 0 (4 : Int32).toNatClampNeg).toInt64)) / (100 : Int64)).toInt32)), some (.int ((v5 - (((v5.toInt64 * r8.toInt64) / (1000 : Int64)).toInt32)) - v23)), some (.int r25), some (.int v27), some (.int x46)] []) (fun rec44 hrec44 x46 σ45 h => ?_) h
                            refine v_iload C dL_isPaid_422 rfl ?_
                            refine v_aload_n C dL_isPaid_424 rfl rfl ?_
                            refine v_iconst C dL_isPaid_425 ki_2 ?_
                            refine ld_19 C dL_isPaid_426 h (fun h => ?_)
                            refine v_icmp_ge C dL_isPaid_427 (tgt := 496) (by decide) h (fun h => ?_) (fun h => ?_)
                            · refine v_aload_n C dL_isPaid_496 rfl rfl ?_
                              refine v_aload_n C dL_isPaid_497 rfl rfl ?_
                              refine v_aload C dL_isPaid_498 rfl ?_
                              refine v_iload C dL_isPaid_500 rfl ?_
                              refine v_iconst C dL_isPaid_502 ki_1 ?_
                              refine v_aload_n C dL_isPaid_503 rfl rfl ?_
                              refine v_aload_n C dL_isPaid_504 rfl rfl ?_
                              refine v_aload C dL_isPaid_505 rfl ?_
                              refine v_iload C dL_isPaid_507 rfl ?_
                              refine v_iconst C dL_isPaid_509 ki_0 ?_
                              refine v_iload C dL_isPaid_510 rfl ?_
                              refine v_aload C dL_isPaid_512 rfl ?_
                              refine cSi C (av := [.ref (ad G 19 0 0), .ref (ad G 20 0 0), .ref (ad G 22 0 0), .int r1, .int (0 : Int32), .int ((v5 - (((v5.toInt64 * r8.toInt64) / (1000 : Int64)).toInt32)) - v23), .ref (ad G 24 0 0)]) si_L_repays lk_L_63 rfl rfl (st := [.int (1 : Int32), .int r1, .ref (ad G 22 0 0), .ref (ad G 20 0 0), .ref (ad G 19 0 0)]) rfl (Nat.le_of_ble_eq_true rfl) dL_isPaid_514 h (fun _ _ hc => s_L_repays (d := (d + 1)) r1 (0 : Int32) ((v5 - (((v5.toInt64 * r8.toInt64) / (1000 : Int64)).toInt32)) - v23)  hc) (fun r47 σ48 h => ?_)
                              refine v_aload C dL_isPaid_517 rfl ?_
                              refine cSi C (av := [.ref (ad G 19 0 0), .ref (ad G 20 0 0), .ref (ad G 22 0 0), .int r1, .int (1 : Int32), .int r47, .ref (ad G 24 0 0)]) si_L_repays lk_L_63 rfl rfl (st := []) rfl (Nat.le_of_ble_eq_true rfl) dL_isPaid_519 h (fun _ _ hc => s_L_repays (d := (d + 1)) r1 (1 : Int32) r47  hc) (fun r49 σ50 h => ?_)
                              refine v_if_eq C dL_isPaid_522 (tgt := 527) (by decide) h (fun h => ?_) (fun h => ?_)
                              · refine v_aload_n C dL_isPaid_527 rfl rfl ?_
                                refine v_iload C dL_isPaid_528 rfl ?_
                                refine v_bipush C dL_isPaid_530 kb_6 ?_
                                refine v_iadd C dL_isPaid_532 ?_
                                refine v_dup2 C dL_isPaid_533 rfl rfl ?_
                                refine ld_21 C dL_isPaid_534 h (fun h => ?_)
                                refine v_iload C dL_isPaid_535 rfl ?_
                                refine v_isub C dL_isPaid_537 ?_
                                refine as_21 C dL_isPaid_538 h (fun h => ?_)
                                refine v_aload_n C dL_isPaid_539 rfl rfl ?_
                                refine v_iload C dL_isPaid_540 rfl ?_
                                refine v_iconst C dL_isPaid_542 ki_4 ?_
                                refine v_iadd C dL_isPaid_543 ?_
                                refine v_dup2 C dL_isPaid_544 rfl rfl ?_
                                refine ld_21 C dL_isPaid_545 h (fun h => ?_)
                                refine v_iload C dL_isPaid_546 rfl ?_
                                refine v_isub C dL_isPaid_548 ?_
                                refine as_21 C dL_isPaid_549 h (fun h => ?_)
                                refine v_lt h (fun σ51 h => ?_)
                                refine v_aload_n C dL_isPaid_550 rfl rfl ?_
                                refine v_iload C dL_isPaid_551 rfl ?_
                                refine v_bipush C dL_isPaid_553 kb_7 ?_
                                refine v_iadd C dL_isPaid_555 ?_
                                refine v_aload_n C dL_isPaid_556 rfl rfl ?_
                                refine v_iload C dL_isPaid_557 rfl ?_
                                refine v_bipush C dL_isPaid_559 kb_7 ?_
                                refine v_iadd C dL_isPaid_561 ?_
                                refine ld_21 C dL_isPaid_562 h (fun h => ?_)
                                refine v_iload C dL_isPaid_563 rfl ?_
                                refine v_join (fun k => ∀ (v52 : Int32), k v52 = some (r, τ) → V X G 0 0 (QE X G (some (.int r)) τ) σ51 582 [some (.ref (ad G 9 0 0)), some (.ref (ad G 19 0 0)), some (.ref (ad G 20 0 0)), some (.ref (ad G 21 0 0)), some (.ref (ad G 22 0 0)), some (.ref (ad G 24 0 0)), some (.int a6), some (.int r1), some (.int ((11 : Int32) * r1)), some (.int ((σ2.1 336 0 (((11 : Int32) * r1) + (6 : Int32)).toNatClampNeg) + (σ2.1 336 0 (((11 : Int32) * r1) + (4 : Int32)).toNatClampNeg))), some (.int (σ2.1 336 0 (((11 : Int32) * r1) + (9 : Int32)).toNatClampNeg)), some (.int v5), some (.int (((v5.toInt64 * r8.toInt64) / (1000 : Int64)).toInt32)), some (.int v23), some (.int (((v23.toInt64 * ((σ9.1 304 0 (4 : Int32).toNatClampNeg).toInt64)) / (100 : Int64)).toInt32)), some (.int ((v5 - (((v5.toInt64 * r8.toInt64) / (1000 : Int64)).toInt32)) - v23)), some (.int r25), some (.int v27), some (.int x46)] [.int v52, .int (((11 : Int32) * r1) + (7 : Int32)), .ref (ad G 21 0 0)]) h (fun v52 h => ?_) (fun k53 hk53 h => ?_)
                                · refine as_21 C dL_isPaid_582 h (fun h => ?_)
                                  refine v_aload_n C dL_isPaid_583 rfl rfl ?_
                                  refine v_iload C dL_isPaid_584 rfl ?_
                                  refine v_bipush C dL_isPaid_586 kb_8 ?_
                                  refine v_iadd C dL_isPaid_588 ?_
                                  refine v_aload_n C dL_isPaid_589 rfl rfl ?_
                                  refine v_iload C dL_isPaid_590 rfl ?_
                                  refine v_bipush C dL_isPaid_592 kb_6 ?_
                                  refine v_iadd C dL_isPaid_594 ?_
                                  refine ld_21 C dL_isPaid_595 h (fun h => ?_)
                                  refine v_join (fun k => ∀ (v54 : Int32), k v54 = some (r, τ) → V X G 0 0 (QE X G (some (.int r)) τ) (up σ51 336 0 (((11 : Int32) * r1) + (7 : Int32)).toNatClampNeg v52) 620 [some (.ref (ad G 9 0 0)), some (.ref (ad G 19 0 0)), some (.ref (ad G 20 0 0)), some (.ref (ad G 21 0 0)), some (.ref (ad G 22 0 0)), some (.ref (ad G 24 0 0)), some (.int a6), some (.int r1), some (.int ((11 : Int32) * r1)), some (.int ((σ2.1 336 0 (((11 : Int32) * r1) + (6 : Int32)).toNatClampNeg) + (σ2.1 336 0 (((11 : Int32) * r1) + (4 : Int32)).toNatClampNeg))), some (.int (σ2.1 336 0 (((11 : Int32) * r1) + (9 : Int32)).toNatClampNeg)), some (.int v5), some (.int (((v5.toInt64 * r8.toInt64) / (1000 : Int64)).toInt32)), some (.int v23), some (.int (((v23.toInt64 * ((σ9.1 304 0 (4 : Int32).toNatClampNeg).toInt64)) / (100 : Int64)).toInt32)), some (.int ((v5 - (((v5.toInt64 * r8.toInt64) / (1000 : Int64)).toInt32)) - v23)), some (.int r25), some (.int v27), some (.int x46)] [.int v54, .int (((11 : Int32) * r1) + (8 : Int32)), .ref (ad G 21 0 0)]) h (fun v54 h => ?_) (fun k55 hk55 h => ?_)
                                  · refine as_21 C dL_isPaid_620 h (fun h => ?_)
                                    refine v_lt h (fun σ56 h => ?_)
                                    refine v_aload_n C dL_isPaid_621 rfl rfl ?_
                                    refine v_iload C dL_isPaid_622 rfl ?_
                                    refine v_iconst C dL_isPaid_624 ki_3 ?_
                                    refine v_iadd C dL_isPaid_625 ?_
                                    refine v_aload_n C dL_isPaid_626 rfl rfl ?_
                                    refine v_iload C dL_isPaid_627 rfl ?_
                                    refine v_iconst C dL_isPaid_629 ki_4 ?_
                                    refine v_iadd C dL_isPaid_630 ?_
                                    refine ld_21 C dL_isPaid_631 h (fun h => ?_)
                                    refine v_join (fun k => ∀ (v57 : Int32), k v57 = some (r, τ) → V X G 0 0 (QE X G (some (.int r)) τ) σ56 650 [some (.ref (ad G 9 0 0)), some (.ref (ad G 19 0 0)), some (.ref (ad G 20 0 0)), some (.ref (ad G 21 0 0)), some (.ref (ad G 22 0 0)), some (.ref (ad G 24 0 0)), some (.int a6), some (.int r1), some (.int ((11 : Int32) * r1)), some (.int ((σ2.1 336 0 (((11 : Int32) * r1) + (6 : Int32)).toNatClampNeg) + (σ2.1 336 0 (((11 : Int32) * r1) + (4 : Int32)).toNatClampNeg))), some (.int (σ2.1 336 0 (((11 : Int32) * r1) + (9 : Int32)).toNatClampNeg)), some (.int v5), some (.int (((v5.toInt64 * r8.toInt64) / (1000 : Int64)).toInt32)), some (.int v23), some (.int (((v23.toInt64 * ((σ9.1 304 0 (4 : Int32).toNatClampNeg).toInt64)) / (100 : Int64)).toInt32)), some (.int ((v5 - (((v5.toInt64 * r8.toInt64) / (1000 : Int64)).toInt32)) - v23)), some (.int r25), some (.int v27), some (.int x46)] [.int v57, .int (((11 : Int32) * r1) + (3 : Int32)), .ref (ad G 21 0 0)]) h (fun v57 h => ?_) (fun k58 hk58 h => ?_)
                                    · refine as_21 C dL_isPaid_650 h (fun h => ?_)
                                      refine v_aload_n C dL_isPaid_651 rfl rfl ?_
                                      refine v_iload C dL_isPaid_652 rfl ?_
                                      refine v_bipush C dL_isPaid_654 kb_10 ?_
                                      refine v_iadd C dL_isPaid_656 ?_
                                      refine v_aload_n C dL_isPaid_657 rfl rfl ?_
                                      refine v_iload C dL_isPaid_658 rfl ?_
                                      refine v_iconst C dL_isPaid_660 ki_3 ?_
                                      refine v_iadd C dL_isPaid_661 ?_
                                      refine ld_21 C dL_isPaid_662 h (fun h => ?_)
                                      refine v_iconst C dL_isPaid_663 ki_2 ?_
                                      refine v_join (fun k => ∀ (v59 : Int32), k v59 = some (r, τ) → V X G 0 0 (QE X G (some (.int r)) τ) (up σ56 336 0 (((11 : Int32) * r1) + (3 : Int32)).toNatClampNeg v57) 679 [some (.ref (ad G 9 0 0)), some (.ref (ad G 19 0 0)), some (.ref (ad G 20 0 0)), some (.ref (ad G 21 0 0)), some (.ref (ad G 22 0 0)), some (.ref (ad G 24 0 0)), some (.int a6), some (.int r1), some (.int ((11 : Int32) * r1)), some (.int ((σ2.1 336 0 (((11 : Int32) * r1) + (6 : Int32)).toNatClampNeg) + (σ2.1 336 0 (((11 : Int32) * r1) + (4 : Int32)).toNatClampNeg))), some (.int (σ2.1 336 0 (((11 : Int32) * r1) + (9 : Int32)).toNatClampNeg)), some (.int v5), some (.int (((v5.toInt64 * r8.toInt64) / (1000 : Int64)).toInt32)), some (.int v23), some (.int (((v23.toInt64 * ((σ9.1 304 0 (4 : Int32).toNatClampNeg).toInt64)) / (100 : Int64)).toInt32)), some (.int ((v5 - (((v5.toInt64 * r8.toInt64) / (1000 : Int64)).toInt32)) - v23)), some (.int r25), some (.int v27), some (.int x46)] [.int v59, .int (((11 : Int32) * r1) + (10 : Int32)), .ref (ad G 21 0 0)]) h (fun v59 h => ?_) (fun k60 hk60 h => ?_)
                                      · refine as_21 C dL_isPaid_679 h (fun h => ?_)
                                        refine v_lt h (fun σ61 h => ?_)
                                        refine v_aload_n C dL_isPaid_680 rfl rfl ?_
                                        refine v_iload C dL_isPaid_681 rfl ?_
                                        refine v_iload C dL_isPaid_683 rfl ?_
                                        refine cVi C 9 0 0 (av := [.int r1, .int v5]) si_X9_pay lk_L_54 (ok9) rfl rfl rfl rfl (st := []) rfl (Nat.le_of_ble_eq_true rfl) dL_isPaid_685 h (fun _ _ hc => s_X9_pay (d := d) r1 v5  hc) (fun r62 σ63 h => ?_)
                                        refine v_aload_n C dL_isPaid_688 rfl rfl ?_
                                        refine v_iload C dL_isPaid_689 rfl ?_
                                        refine v_iconst C dL_isPaid_691 ki_4 ?_
                                        refine v_iadd C dL_isPaid_692 ?_
                                        refine ld_21 C dL_isPaid_693 h (fun h => ?_)
                                        refine v_icmp_ne C dL_isPaid_694 (tgt := 701) (by decide) h (fun h => ?_) (fun h => ?_)
                                        · refine v_iconst C dL_isPaid_701 ki_0 ?_
                                          exact v_zretc C dL_isPaid_702 (nar01 (Or.inl rfl)) h
                                        · refine v_iconst C dL_isPaid_697 ki_1 ?_
                                          refine v_goto C dL_isPaid_698 (tgt := 702) (by decide) ?_
                                          exact v_zretc C dL_isPaid_702 (nar01 (Or.inr rfl)) h
                                      · refine v_icmp_ne C dL_isPaid_664 (tgt := 672) (by decide) h (fun h => ?_) (fun h => ?_)
                                        · refine v_aload_n C dL_isPaid_672 rfl rfl ?_
                                          refine v_iload C dL_isPaid_673 rfl ?_
                                          refine v_bipush C dL_isPaid_675 kb_10 ?_
                                          refine v_iadd C dL_isPaid_677 ?_
                                          refine ld_21 C dL_isPaid_678 h (fun h => ?_)
                                          refine v_mask [true, true, true, true, true, true, true, true, true, true, true, true, true, true, true, true, true, true, true] (lc' := [some (.ref (ad G 9 0 0)), some (.ref (ad G 19 0 0)), some (.ref (ad G 20 0 0)), some (.ref (ad G 21 0 0)), some (.ref (ad G 22 0 0)), some (.ref (ad G 24 0 0)), some (.int a6), some (.int r1), some (.int ((11 : Int32) * r1)), some (.int ((σ2.1 336 0 (((11 : Int32) * r1) + (6 : Int32)).toNatClampNeg) + (σ2.1 336 0 (((11 : Int32) * r1) + (4 : Int32)).toNatClampNeg))), some (.int (σ2.1 336 0 (((11 : Int32) * r1) + (9 : Int32)).toNatClampNeg)), some (.int v5), some (.int (((v5.toInt64 * r8.toInt64) / (1000 : Int64)).toInt32)), some (.int v23), some (.int (((v23.toInt64 * ((σ9.1 304 0 (4 : Int32).toNatClampNeg).toInt64)) / (100 : Int64)).toInt32)), some (.int ((v5 - (((v5.toInt64 * r8.toInt64) / (1000 : Int64)).toInt32)) - v23)), some (.int r25), some (.int v27), some (.int x46)]) rfl ?_
                                          exact hk60 _ h
                                        · refine v_bipush C dL_isPaid_667 kb_m5 ?_
                                          refine v_goto C dL_isPaid_669 (tgt := 679) (by decide) ?_
                                          refine v_mask [true, true, true, true, true, true, true, true, true, true, true, true, true, true, true, true, true, true, true] (lc' := [some (.ref (ad G 9 0 0)), some (.ref (ad G 19 0 0)), some (.ref (ad G 20 0 0)), some (.ref (ad G 21 0 0)), some (.ref (ad G 22 0 0)), some (.ref (ad G 24 0 0)), some (.int a6), some (.int r1), some (.int ((11 : Int32) * r1)), some (.int ((σ2.1 336 0 (((11 : Int32) * r1) + (6 : Int32)).toNatClampNeg) + (σ2.1 336 0 (((11 : Int32) * r1) + (4 : Int32)).toNatClampNeg))), some (.int (σ2.1 336 0 (((11 : Int32) * r1) + (9 : Int32)).toNatClampNeg)), some (.int v5), some (.int (((v5.toInt64 * r8.toInt64) / (1000 : Int64)).toInt32)), some (.int v23), some (.int (((v23.toInt64 * ((σ9.1 304 0 (4 : Int32).toNatClampNeg).toInt64)) / (100 : Int64)).toInt32)), some (.int ((v5 - (((v5.toInt64 * r8.toInt64) / (1000 : Int64)).toInt32)) - v23)), some (.int r25), some (.int v27), some (.int x46)]) rfl ?_
                                          exact hk60 _ h
                                    · refine v_join (fun k => k = some (r, τ) → V X G 0 0 (QE X G (some (.int r)) τ) σ56 649 [some (.ref (ad G 9 0 0)), some (.ref (ad G 19 0 0)), some (.ref (ad G 20 0 0)), some (.ref (ad G 21 0 0)), some (.ref (ad G 22 0 0)), some (.ref (ad G 24 0 0)), some (.int a6), some (.int r1), some (.int ((11 : Int32) * r1)), some (.int ((σ2.1 336 0 (((11 : Int32) * r1) + (6 : Int32)).toNatClampNeg) + (σ2.1 336 0 (((11 : Int32) * r1) + (4 : Int32)).toNatClampNeg))), some (.int (σ2.1 336 0 (((11 : Int32) * r1) + (9 : Int32)).toNatClampNeg)), some (.int v5), some (.int (((v5.toInt64 * r8.toInt64) / (1000 : Int64)).toInt32)), some (.int v23), some (.int (((v23.toInt64 * ((σ9.1 304 0 (4 : Int32).toNatClampNeg).toInt64)) / (100 : Int64)).toInt32)), some (.int ((v5 - (((v5.toInt64 * r8.toInt64) / (1000 : Int64)).toInt32)) - v23)), some (.int r25), some (.int v27), some (.int x46)] [.int (((11 : Int32) * r1) + (3 : Int32)), .ref (ad G 21 0 0)]) h (fun h => ?_) (fun k64 hk64 h => ?_)
                                      · refine v_iconst C dL_isPaid_649 ki_1 ?_
                                        refine v_mask [true, true, true, true, true, true, true, true, true, true, true, true, true, true, true, true, true, true, true] (lc' := [some (.ref (ad G 9 0 0)), some (.ref (ad G 19 0 0)), some (.ref (ad G 20 0 0)), some (.ref (ad G 21 0 0)), some (.ref (ad G 22 0 0)), some (.ref (ad G 24 0 0)), some (.int a6), some (.int r1), some (.int ((11 : Int32) * r1)), some (.int ((σ2.1 336 0 (((11 : Int32) * r1) + (6 : Int32)).toNatClampNeg) + (σ2.1 336 0 (((11 : Int32) * r1) + (4 : Int32)).toNatClampNeg))), some (.int (σ2.1 336 0 (((11 : Int32) * r1) + (9 : Int32)).toNatClampNeg)), some (.int v5), some (.int (((v5.toInt64 * r8.toInt64) / (1000 : Int64)).toInt32)), some (.int v23), some (.int (((v23.toInt64 * ((σ9.1 304 0 (4 : Int32).toNatClampNeg).toInt64)) / (100 : Int64)).toInt32)), some (.int ((v5 - (((v5.toInt64 * r8.toInt64) / (1000 : Int64)).toInt32)) - v23)), some (.int r25), some (.int v27), some (.int x46)]) rfl ?_
                                        exact hk58 _ h
                                      · refine v_if_ne C dL_isPaid_632 (tgt := 649) (by decide) h (fun h => ?_) (fun h => ?_)
                                        · refine v_mask [true, true, true, true, true, true, true, true, true, true, true, true, true, true, true, true, true, true, true] (lc' := [some (.ref (ad G 9 0 0)), some (.ref (ad G 19 0 0)), some (.ref (ad G 20 0 0)), some (.ref (ad G 21 0 0)), some (.ref (ad G 22 0 0)), some (.ref (ad G 24 0 0)), some (.int a6), some (.int r1), some (.int ((11 : Int32) * r1)), some (.int ((σ2.1 336 0 (((11 : Int32) * r1) + (6 : Int32)).toNatClampNeg) + (σ2.1 336 0 (((11 : Int32) * r1) + (4 : Int32)).toNatClampNeg))), some (.int (σ2.1 336 0 (((11 : Int32) * r1) + (9 : Int32)).toNatClampNeg)), some (.int v5), some (.int (((v5.toInt64 * r8.toInt64) / (1000 : Int64)).toInt32)), some (.int v23), some (.int (((v23.toInt64 * ((σ9.1 304 0 (4 : Int32).toNatClampNeg).toInt64)) / (100 : Int64)).toInt32)), some (.int ((v5 - (((v5.toInt64 * r8.toInt64) / (1000 : Int64)).toInt32)) - v23)), some (.int r25), some (.int v27), some (.int x46)]) rfl ?_
                                          exact hk64 h
                                        · refine v_aload_n C dL_isPaid_635 rfl rfl ?_
                                          refine v_iload C dL_isPaid_636 rfl ?_
                                          refine v_bipush C dL_isPaid_638 kb_6 ?_
                                          refine v_iadd C dL_isPaid_640 ?_
                                          refine ld_21 C dL_isPaid_641 h (fun h => ?_)
                                          refine v_if_ne C dL_isPaid_642 (tgt := 649) (by decide) h (fun h => ?_) (fun h => ?_)
                                          · refine v_mask [true, true, true, true, true, true, true, true, true, true, true, true, true, true, true, true, true, true, true] (lc' := [some (.ref (ad G 9 0 0)), some (.ref (ad G 19 0 0)), some (.ref (ad G 20 0 0)), some (.ref (ad G 21 0 0)), some (.ref (ad G 22 0 0)), some (.ref (ad G 24 0 0)), some (.int a6), some (.int r1), some (.int ((11 : Int32) * r1)), some (.int ((σ2.1 336 0 (((11 : Int32) * r1) + (6 : Int32)).toNatClampNeg) + (σ2.1 336 0 (((11 : Int32) * r1) + (4 : Int32)).toNatClampNeg))), some (.int (σ2.1 336 0 (((11 : Int32) * r1) + (9 : Int32)).toNatClampNeg)), some (.int v5), some (.int (((v5.toInt64 * r8.toInt64) / (1000 : Int64)).toInt32)), some (.int v23), some (.int (((v23.toInt64 * ((σ9.1 304 0 (4 : Int32).toNatClampNeg).toInt64)) / (100 : Int64)).toInt32)), some (.int ((v5 - (((v5.toInt64 * r8.toInt64) / (1000 : Int64)).toInt32)) - v23)), some (.int r25), some (.int v27), some (.int x46)]) rfl ?_
                                            exact hk64 h
                                          · refine v_iconst C dL_isPaid_645 ki_2 ?_
                                            refine v_goto C dL_isPaid_646 (tgt := 650) (by decide) ?_
                                            refine v_mask [true, true, true, true, true, true, true, true, true, true, true, true, true, true, true, true, true, true, true] (lc' := [some (.ref (ad G 9 0 0)), some (.ref (ad G 19 0 0)), some (.ref (ad G 20 0 0)), some (.ref (ad G 21 0 0)), some (.ref (ad G 22 0 0)), some (.ref (ad G 24 0 0)), some (.int a6), some (.int r1), some (.int ((11 : Int32) * r1)), some (.int ((σ2.1 336 0 (((11 : Int32) * r1) + (6 : Int32)).toNatClampNeg) + (σ2.1 336 0 (((11 : Int32) * r1) + (4 : Int32)).toNatClampNeg))), some (.int (σ2.1 336 0 (((11 : Int32) * r1) + (9 : Int32)).toNatClampNeg)), some (.int v5), some (.int (((v5.toInt64 * r8.toInt64) / (1000 : Int64)).toInt32)), some (.int v23), some (.int (((v23.toInt64 * ((σ9.1 304 0 (4 : Int32).toNatClampNeg).toInt64)) / (100 : Int64)).toInt32)), some (.int ((v5 - (((v5.toInt64 * r8.toInt64) / (1000 : Int64)).toInt32)) - v23)), some (.int r25), some (.int v27), some (.int x46)]) rfl ?_
                                            exact hk58 _ h
                                  · refine v_join (fun k => k = some (r, τ) → V X G 0 0 (QE X G (some (.int r)) τ) (up σ51 336 0 (((11 : Int32) * r1) + (7 : Int32)).toNatClampNeg v52) 613 [some (.ref (ad G 9 0 0)), some (.ref (ad G 19 0 0)), some (.ref (ad G 20 0 0)), some (.ref (ad G 21 0 0)), some (.ref (ad G 22 0 0)), some (.ref (ad G 24 0 0)), some (.int a6), some (.int r1), some (.int ((11 : Int32) * r1)), some (.int ((σ2.1 336 0 (((11 : Int32) * r1) + (6 : Int32)).toNatClampNeg) + (σ2.1 336 0 (((11 : Int32) * r1) + (4 : Int32)).toNatClampNeg))), some (.int (σ2.1 336 0 (((11 : Int32) * r1) + (9 : Int32)).toNatClampNeg)), some (.int v5), some (.int (((v5.toInt64 * r8.toInt64) / (1000 : Int64)).toInt32)), some (.int v23), some (.int (((v23.toInt64 * ((σ9.1 304 0 (4 : Int32).toNatClampNeg).toInt64)) / (100 : Int64)).toInt32)), some (.int ((v5 - (((v5.toInt64 * r8.toInt64) / (1000 : Int64)).toInt32)) - v23)), some (.int r25), some (.int v27), some (.int x46)] [.int (((11 : Int32) * r1) + (8 : Int32)), .ref (ad G 21 0 0)]) h (fun h => ?_) (fun k65 hk65 h => ?_)
                                    · refine v_aload_n C dL_isPaid_613 rfl rfl ?_
                                      refine v_iload C dL_isPaid_614 rfl ?_
                                      refine v_bipush C dL_isPaid_616 kb_8 ?_
                                      refine v_iadd C dL_isPaid_618 ?_
                                      refine ld_21 C dL_isPaid_619 h (fun h => ?_)
                                      refine v_mask [true, true, true, true, true, true, true, true, true, true, true, true, true, true, true, true, true, true, true] (lc' := [some (.ref (ad G 9 0 0)), some (.ref (ad G 19 0 0)), some (.ref (ad G 20 0 0)), some (.ref (ad G 21 0 0)), some (.ref (ad G 22 0 0)), some (.ref (ad G 24 0 0)), some (.int a6), some (.int r1), some (.int ((11 : Int32) * r1)), some (.int ((σ2.1 336 0 (((11 : Int32) * r1) + (6 : Int32)).toNatClampNeg) + (σ2.1 336 0 (((11 : Int32) * r1) + (4 : Int32)).toNatClampNeg))), some (.int (σ2.1 336 0 (((11 : Int32) * r1) + (9 : Int32)).toNatClampNeg)), some (.int v5), some (.int (((v5.toInt64 * r8.toInt64) / (1000 : Int64)).toInt32)), some (.int v23), some (.int (((v23.toInt64 * ((σ9.1 304 0 (4 : Int32).toNatClampNeg).toInt64)) / (100 : Int64)).toInt32)), some (.int ((v5 - (((v5.toInt64 * r8.toInt64) / (1000 : Int64)).toInt32)) - v23)), some (.int r25), some (.int v27), some (.int x46)]) rfl ?_
                                      exact hk55 _ h
                                    · refine v_if_ne C dL_isPaid_596 (tgt := 613) (by decide) h (fun h => ?_) (fun h => ?_)
                                      · refine v_mask [true, true, true, true, true, true, true, true, true, true, true, true, true, true, true, true, true, true, true] (lc' := [some (.ref (ad G 9 0 0)), some (.ref (ad G 19 0 0)), some (.ref (ad G 20 0 0)), some (.ref (ad G 21 0 0)), some (.ref (ad G 22 0 0)), some (.ref (ad G 24 0 0)), some (.int a6), some (.int r1), some (.int ((11 : Int32) * r1)), some (.int ((σ2.1 336 0 (((11 : Int32) * r1) + (6 : Int32)).toNatClampNeg) + (σ2.1 336 0 (((11 : Int32) * r1) + (4 : Int32)).toNatClampNeg))), some (.int (σ2.1 336 0 (((11 : Int32) * r1) + (9 : Int32)).toNatClampNeg)), some (.int v5), some (.int (((v5.toInt64 * r8.toInt64) / (1000 : Int64)).toInt32)), some (.int v23), some (.int (((v23.toInt64 * ((σ9.1 304 0 (4 : Int32).toNatClampNeg).toInt64)) / (100 : Int64)).toInt32)), some (.int ((v5 - (((v5.toInt64 * r8.toInt64) / (1000 : Int64)).toInt32)) - v23)), some (.int r25), some (.int v27), some (.int x46)]) rfl ?_
                                        exact hk65 h
                                      · refine v_aload_n C dL_isPaid_599 rfl rfl ?_
                                        refine v_iload C dL_isPaid_600 rfl ?_
                                        refine v_bipush C dL_isPaid_602 kb_7 ?_
                                        refine v_iadd C dL_isPaid_604 ?_
                                        refine ld_21 C dL_isPaid_605 h (fun h => ?_)
                                        refine v_if_ne C dL_isPaid_606 (tgt := 613) (by decide) h (fun h => ?_) (fun h => ?_)
                                        · refine v_mask [true, true, true, true, true, true, true, true, true, true, true, true, true, true, true, true, true, true, true] (lc' := [some (.ref (ad G 9 0 0)), some (.ref (ad G 19 0 0)), some (.ref (ad G 20 0 0)), some (.ref (ad G 21 0 0)), some (.ref (ad G 22 0 0)), some (.ref (ad G 24 0 0)), some (.int a6), some (.int r1), some (.int ((11 : Int32) * r1)), some (.int ((σ2.1 336 0 (((11 : Int32) * r1) + (6 : Int32)).toNatClampNeg) + (σ2.1 336 0 (((11 : Int32) * r1) + (4 : Int32)).toNatClampNeg))), some (.int (σ2.1 336 0 (((11 : Int32) * r1) + (9 : Int32)).toNatClampNeg)), some (.int v5), some (.int (((v5.toInt64 * r8.toInt64) / (1000 : Int64)).toInt32)), some (.int v23), some (.int (((v23.toInt64 * ((σ9.1 304 0 (4 : Int32).toNatClampNeg).toInt64)) / (100 : Int64)).toInt32)), some (.int ((v5 - (((v5.toInt64 * r8.toInt64) / (1000 : Int64)).toInt32)) - v23)), some (.int r25), some (.int v27), some (.int x46)]) rfl ?_
                                          exact hk65 h
                                        · refine v_iconst C dL_isPaid_609 ki_0 ?_
                                          refine v_goto C dL_isPaid_610 (tgt := 620) (by decide) ?_
                                          refine v_mask [true, true, true, true, true, true, true, true, true, true, true, true, true, true, true, true, true, true, true] (lc' := [some (.ref (ad G 9 0 0)), some (.ref (ad G 19 0 0)), some (.ref (ad G 20 0 0)), some (.ref (ad G 21 0 0)), some (.ref (ad G 22 0 0)), some (.ref (ad G 24 0 0)), some (.int a6), some (.int r1), some (.int ((11 : Int32) * r1)), some (.int ((σ2.1 336 0 (((11 : Int32) * r1) + (6 : Int32)).toNatClampNeg) + (σ2.1 336 0 (((11 : Int32) * r1) + (4 : Int32)).toNatClampNeg))), some (.int (σ2.1 336 0 (((11 : Int32) * r1) + (9 : Int32)).toNatClampNeg)), some (.int v5), some (.int (((v5.toInt64 * r8.toInt64) / (1000 : Int64)).toInt32)), some (.int v23), some (.int (((v23.toInt64 * ((σ9.1 304 0 (4 : Int32).toNatClampNeg).toInt64)) / (100 : Int64)).toInt32)), some (.int ((v5 - (((v5.toInt64 * r8.toInt64) / (1000 : Int64)).toInt32)) - v23)), some (.int r25), some (.int v27), some (.int x46)]) rfl ?_
                                          exact hk55 _ h
                                · refine v_icmp_ge C dL_isPaid_565 (tgt := 572) (by decide) h (fun h => ?_) (fun h => ?_)
                                  · refine v_aload_n C dL_isPaid_572 rfl rfl ?_
                                    refine v_iload C dL_isPaid_573 rfl ?_
                                    refine v_bipush C dL_isPaid_575 kb_7 ?_
                                    refine v_iadd C dL_isPaid_577 ?_
                                    refine ld_21 C dL_isPaid_578 h (fun h => ?_)
                                    refine v_iload C dL_isPaid_579 rfl ?_
                                    refine v_isub C dL_isPaid_581 ?_
                                    refine v_mask [true, true, true, true, true, true, true, true, true, true, true, true, true, true, true, true, true, true, true] (lc' := [some (.ref (ad G 9 0 0)), some (.ref (ad G 19 0 0)), some (.ref (ad G 20 0 0)), some (.ref (ad G 21 0 0)), some (.ref (ad G 22 0 0)), some (.ref (ad G 24 0 0)), some (.int a6), some (.int r1), some (.int ((11 : Int32) * r1)), some (.int ((σ2.1 336 0 (((11 : Int32) * r1) + (6 : Int32)).toNatClampNeg) + (σ2.1 336 0 (((11 : Int32) * r1) + (4 : Int32)).toNatClampNeg))), some (.int (σ2.1 336 0 (((11 : Int32) * r1) + (9 : Int32)).toNatClampNeg)), some (.int v5), some (.int (((v5.toInt64 * r8.toInt64) / (1000 : Int64)).toInt32)), some (.int v23), some (.int (((v23.toInt64 * ((σ9.1 304 0 (4 : Int32).toNatClampNeg).toInt64)) / (100 : Int64)).toInt32)), some (.int ((v5 - (((v5.toInt64 * r8.toInt64) / (1000 : Int64)).toInt32)) - v23)), some (.int r25), some (.int v27), some (.int x46)]) rfl ?_
                                    exact hk53 _ h
                                  · refine v_iconst C dL_isPaid_568 ki_0 ?_
                                    refine v_goto C dL_isPaid_569 (tgt := 582) (by decide) ?_
                                    refine v_mask [true, true, true, true, true, true, true, true, true, true, true, true, true, true, true, true, true, true, true] (lc' := [some (.ref (ad G 9 0 0)), some (.ref (ad G 19 0 0)), some (.ref (ad G 20 0 0)), some (.ref (ad G 21 0 0)), some (.ref (ad G 22 0 0)), some (.ref (ad G 24 0 0)), some (.int a6), some (.int r1), some (.int ((11 : Int32) * r1)), some (.int ((σ2.1 336 0 (((11 : Int32) * r1) + (6 : Int32)).toNatClampNeg) + (σ2.1 336 0 (((11 : Int32) * r1) + (4 : Int32)).toNatClampNeg))), some (.int (σ2.1 336 0 (((11 : Int32) * r1) + (9 : Int32)).toNatClampNeg)), some (.int v5), some (.int (((v5.toInt64 * r8.toInt64) / (1000 : Int64)).toInt32)), some (.int v23), some (.int (((v23.toInt64 * ((σ9.1 304 0 (4 : Int32).toNatClampNeg).toInt64)) / (100 : Int64)).toInt32)), some (.int ((v5 - (((v5.toInt64 * r8.toInt64) / (1000 : Int64)).toInt32)) - v23)), some (.int r25), some (.int v27), some (.int x46)]) rfl ?_
                                    exact hk53 _ h
                              · refine v_iconst C dL_isPaid_525 ki_0 ?_
                                exact v_zretc C dL_isPaid_526 (nar01 (Or.inl rfl)) h
                            · refine v_aload_n C dL_isPaid_430 rfl rfl ?_
                              refine v_iconst C dL_isPaid_431 ki_3 ?_
                              refine v_aload C dL_isPaid_432 rfl ?_
                              refine v_bipush C dL_isPaid_434 kb_6 ?_
                              refine v_iload C dL_isPaid_436 rfl ?_
                              refine v_imul C dL_isPaid_438 ?_
                              refine ld_22 C dL_isPaid_439 h (fun h => ?_)
                              refine v_imul C dL_isPaid_440 ?_
                              refine v_dup2 C dL_isPaid_441 rfl rfl ?_
                              refine ld_20 C dL_isPaid_442 h (fun h => ?_)
                              refine v_aload C dL_isPaid_443 rfl ?_
                              refine v_iload C dL_isPaid_445 rfl ?_
                              refine ld_24 C dL_isPaid_447 h (fun h => ?_)
                              refine v_iadd C dL_isPaid_448 ?_
                              refine as_20 C dL_isPaid_449 h (fun h => ?_)
                              refine v_aload_n C dL_isPaid_450 rfl rfl ?_
                              refine v_iconst C dL_isPaid_451 ki_3 ?_
                              refine v_aload C dL_isPaid_452 rfl ?_
                              refine v_bipush C dL_isPaid_454 kb_6 ?_
                              refine v_iload C dL_isPaid_456 rfl ?_
                              refine v_imul C dL_isPaid_458 ?_
                              refine ld_22 C dL_isPaid_459 h (fun h => ?_)
                              refine v_imul C dL_isPaid_460 ?_
                              refine v_iconst C dL_isPaid_461 ki_1 ?_
                              refine v_iadd C dL_isPaid_462 ?_
                              refine v_dup2 C dL_isPaid_463 rfl rfl ?_
                              refine ld_20 C dL_isPaid_464 h (fun h => ?_)
                              refine v_aload C dL_isPaid_465 rfl ?_
                              refine v_iload C dL_isPaid_467 rfl ?_
                              refine ld_24 C dL_isPaid_469 h (fun h => ?_)
                              refine v_iadd C dL_isPaid_470 ?_
                              refine as_20 C dL_isPaid_471 h (fun h => ?_)
                              refine v_lt h (fun σ66 h => ?_)
                              refine v_aload C dL_isPaid_472 rfl ?_
                              refine v_bipush C dL_isPaid_474 kb_6 ?_
                              refine v_iload C dL_isPaid_476 rfl ?_
                              refine v_imul C dL_isPaid_478 ?_
                              refine v_iconst C dL_isPaid_479 ki_4 ?_
                              refine v_iadd C dL_isPaid_480 ?_
                              refine v_dup2 C dL_isPaid_481 rfl rfl ?_
                              refine ld_22 C dL_isPaid_482 h (fun h => ?_)
                              refine v_aload C dL_isPaid_483 rfl ?_
                              refine v_iload C dL_isPaid_485 rfl ?_
                              refine ld_24 C dL_isPaid_487 h (fun h => ?_)
                              refine v_iadd C dL_isPaid_488 ?_
                              refine as_22 C dL_isPaid_489 h (fun h => ?_)
                              refine v_iinc C dL_isPaid_490 rfl (kc_1 _) (lc1 := [some (.ref (ad G 9 0 0)), some (.ref (ad G 19 0 0)), some (.ref (ad G 20 0 0)), some (.ref (ad G 21 0 0)), some (.ref (ad G 22 0 0)), some (.ref (ad G 24 0 0)), some (.int a6), some (.int r1), some (.int ((11 : Int32) * r1)), some (.int ((σ2.1 336 0 (((11 : Int32) * r1) + (6 : Int32)).toNatClampNeg) + (σ2.1 336 0 (((11 : Int32) * r1) + (4 : Int32)).toNatClampNeg))), some (.int (σ2.1 336 0 (((11 : Int32) * r1) + (9 : Int32)).toNatClampNeg)), some (.int v5), some (.int (((v5.toInt64 * r8.toInt64) / (1000 : Int64)).toInt32)), some (.int v23), some (.int (((v23.toInt64 * ((σ9.1 304 0 (4 : Int32).toNatClampNeg).toInt64)) / (100 : Int64)).toInt32)), some (.int ((v5 - (((v5.toInt64 * r8.toInt64) / (1000 : Int64)).toInt32)) - v23)), some (.int r25), some (.int v27), some (.int (x46 + 1))]) rfl ?_
                              refine v_goto C dL_isPaid_493 (tgt := 422) (by decide) ?_
                              refine v_mask [true, true, true, true, true, true, true, true, true, true, true, true, true, true, true, true, true, true, true] (lc' := [some (.ref (ad G 9 0 0)), some (.ref (ad G 19 0 0)), some (.ref (ad G 20 0 0)), some (.ref (ad G 21 0 0)), some (.ref (ad G 22 0 0)), some (.ref (ad G 24 0 0)), some (.int a6), some (.int r1), some (.int ((11 : Int32) * r1)), some (.int ((σ2.1 336 0 (((11 : Int32) * r1) + (6 : Int32)).toNatClampNeg) + (σ2.1 336 0 (((11 : Int32) * r1) + (4 : Int32)).toNatClampNeg))), some (.int (σ2.1 336 0 (((11 : Int32) * r1) + (9 : Int32)).toNatClampNeg)), some (.int v5), some (.int (((v5.toInt64 * r8.toInt64) / (1000 : Int64)).toInt32)), some (.int v23), some (.int (((v23.toInt64 * ((σ9.1 304 0 (4 : Int32).toNatClampNeg).toInt64)) / (100 : Int64)).toInt32)), some (.int ((v5 - (((v5.toInt64 * r8.toInt64) / (1000 : Int64)).toInt32)) - v23)), some (.int r25), some (.int v27), some (.int (x46 + 1))]) rfl ?_
                              exact hrec44 _ _ h
                          · refine v_iconst C dL_isPaid_382 ki_0 ?_
                            exact v_zretc C dL_isPaid_383 (nar01 (Or.inl rfl)) h
              · refine v_icmp_ge C dL_isPaid_283 (tgt := 291) (by decide) h (fun h => ?_) (fun h => ?_)
                · refine v_iload C dL_isPaid_291 rfl ?_
                  refine v_mask [true, true, true, true, true, true, true, true, true, true, true, true, true, true, true, true, true, false, false] (lc' := [some (.ref (ad G 9 0 0)), some (.ref (ad G 19 0 0)), some (.ref (ad G 20 0 0)), some (.ref (ad G 21 0 0)), some (.ref (ad G 22 0 0)), some (.ref (ad G 24 0 0)), some (.int a6), some (.int r1), some (.int ((11 : Int32) * r1)), some (.int ((σ2.1 336 0 (((11 : Int32) * r1) + (6 : Int32)).toNatClampNeg) + (σ2.1 336 0 (((11 : Int32) * r1) + (4 : Int32)).toNatClampNeg))), some (.int (σ2.1 336 0 (((11 : Int32) * r1) + (9 : Int32)).toNatClampNeg)), some (.int v5), some (.int (((v5.toInt64 * r8.toInt64) / (1000 : Int64)).toInt32)), some (.int v23), some (.int (((v23.toInt64 * ((σ9.1 304 0 (4 : Int32).toNatClampNeg).toInt64)) / (100 : Int64)).toInt32)), some (.int ((v5 - (((v5.toInt64 * r8.toInt64) / (1000 : Int64)).toInt32)) - v23)), some (.int r25), none, none]) rfl ?_
                  exact hk28 _ h
                · refine v_iload C dL_isPaid_286 rfl ?_
                  refine v_goto C dL_isPaid_288 (tgt := 293) (by decide) ?_
                  refine v_mask [true, true, true, true, true, true, true, true, true, true, true, true, true, true, true, true, true, false, false] (lc' := [some (.ref (ad G 9 0 0)), some (.ref (ad G 19 0 0)), some (.ref (ad G 20 0 0)), some (.ref (ad G 21 0 0)), some (.ref (ad G 22 0 0)), some (.ref (ad G 24 0 0)), some (.int a6), some (.int r1), some (.int ((11 : Int32) * r1)), some (.int ((σ2.1 336 0 (((11 : Int32) * r1) + (6 : Int32)).toNatClampNeg) + (σ2.1 336 0 (((11 : Int32) * r1) + (4 : Int32)).toNatClampNeg))), some (.int (σ2.1 336 0 (((11 : Int32) * r1) + (9 : Int32)).toNatClampNeg)), some (.int v5), some (.int (((v5.toInt64 * r8.toInt64) / (1000 : Int64)).toInt32)), some (.int v23), some (.int (((v23.toInt64 * ((σ9.1 304 0 (4 : Int32).toNatClampNeg).toInt64)) / (100 : Int64)).toInt32)), some (.int ((v5 - (((v5.toInt64 * r8.toInt64) / (1000 : Int64)).toInt32)) - v23)), some (.int r25), none, none]) rfl ?_
                  exact hk28 _ h
            · refine v_icmp_ge C dL_isPaid_223 (tgt := 234) (by decide) h (fun h => ?_) (fun h => ?_)
              · refine v_aload_n C dL_isPaid_234 rfl rfl ?_
                refine v_iload C dL_isPaid_235 rfl ?_
                refine v_bipush C dL_isPaid_237 kb_6 ?_
                refine v_iadd C dL_isPaid_239 ?_
                refine ld_21 C dL_isPaid_240 h (fun h => ?_)
                refine v_mask [true, true, true, true, true, true, true, true, true, true, true, true, true, false, false, false, false, false, false] (lc' := [some (.ref (ad G 9 0 0)), some (.ref (ad G 19 0 0)), some (.ref (ad G 20 0 0)), some (.ref (ad G 21 0 0)), some (.ref (ad G 22 0 0)), some (.ref (ad G 24 0 0)), some (.int a6), some (.int r1), some (.int ((11 : Int32) * r1)), some (.int ((σ2.1 336 0 (((11 : Int32) * r1) + (6 : Int32)).toNatClampNeg) + (σ2.1 336 0 (((11 : Int32) * r1) + (4 : Int32)).toNatClampNeg))), some (.int (σ2.1 336 0 (((11 : Int32) * r1) + (9 : Int32)).toNatClampNeg)), some (.int v5), some (.int (((v5.toInt64 * r8.toInt64) / (1000 : Int64)).toInt32)), none, none, none, none, none, none]) rfl ?_
                exact hk24 _ h
              · refine v_iload C dL_isPaid_226 rfl ?_
                refine v_iload C dL_isPaid_228 rfl ?_
                refine v_isub C dL_isPaid_230 ?_
                refine v_goto C dL_isPaid_231 (tgt := 241) (by decide) ?_
                refine v_mask [true, true, true, true, true, true, true, true, true, true, true, true, true, false, false, false, false, false, false] (lc' := [some (.ref (ad G 9 0 0)), some (.ref (ad G 19 0 0)), some (.ref (ad G 20 0 0)), some (.ref (ad G 21 0 0)), some (.ref (ad G 22 0 0)), some (.ref (ad G 24 0 0)), some (.int a6), some (.int r1), some (.int ((11 : Int32) * r1)), some (.int ((σ2.1 336 0 (((11 : Int32) * r1) + (6 : Int32)).toNatClampNeg) + (σ2.1 336 0 (((11 : Int32) * r1) + (4 : Int32)).toNatClampNeg))), some (.int (σ2.1 336 0 (((11 : Int32) * r1) + (9 : Int32)).toNatClampNeg)), some (.int v5), some (.int (((v5.toInt64 * r8.toInt64) / (1000 : Int64)).toInt32)), none, none, none, none, none, none]) rfl ?_
                exact hk24 _ h
          · refine v_mask [true, true, true, true, true, true, true, true, true, true, true, true, true, false, false, false, false, false, false] (lc' := [some (.ref (ad G 9 0 0)), some (.ref (ad G 19 0 0)), some (.ref (ad G 20 0 0)), some (.ref (ad G 21 0 0)), some (.ref (ad G 22 0 0)), some (.ref (ad G 24 0 0)), some (.int a6), some (.int r1), some (.int ((11 : Int32) * r1)), some (.int ((σ2.1 336 0 (((11 : Int32) * r1) + (6 : Int32)).toNatClampNeg) + (σ2.1 336 0 (((11 : Int32) * r1) + (4 : Int32)).toNatClampNeg))), some (.int (σ2.1 336 0 (((11 : Int32) * r1) + (9 : Int32)).toNatClampNeg)), some (.int v5), some (.int (((v5.toInt64 * r8.toInt64) / (1000 : Int64)).toInt32)), none, none, none, none, none, none]) rfl ?_
            exact hk10 h
  · refine v_join (fun k => k = some (r, τ) → V X G 0 0 (QE X G (some (.int r)) τ) σ4 72 [some (.ref (ad G 9 0 0)), some (.ref (ad G 19 0 0)), some (.ref (ad G 20 0 0)), some (.ref (ad G 21 0 0)), some (.ref (ad G 22 0 0)), some (.ref (ad G 24 0 0)), some (.int a6), some (.int r1), some (.int ((11 : Int32) * r1)), some (.int ((σ2.1 336 0 (((11 : Int32) * r1) + (6 : Int32)).toNatClampNeg) + (σ2.1 336 0 (((11 : Int32) * r1) + (4 : Int32)).toNatClampNeg))), some (.int (σ2.1 336 0 (((11 : Int32) * r1) + (9 : Int32)).toNatClampNeg)), none, none, none, none, none, none, none, none] []) h (fun h => ?_) (fun k67 hk67 h => ?_)
    · refine v_iconst C dL_isPaid_72 ki_1 ?_
      refine v_iload C dL_isPaid_73 rfl ?_
      refine v_bipush C dL_isPaid_75 kb_6 ?_
      refine v_ishr C dL_isPaid_77 ?_
      refine v_sipush C dL_isPaid_78 ks_500 ?_
      refine cSi C (av := [.int (a6 >>> ((6 : Int32) &&& 31)), .int (500 : Int32)]) si_L_low lk_L_41 rfl rfl (st := [.int (1 : Int32)]) rfl (Nat.le_of_ble_eq_true rfl) dL_isPaid_81 h (fun _ _ hc => s_L_low (d := (d + 3)) (a6 >>> ((6 : Int32) &&& 31)) (500 : Int32)  hc) (fun r68 σ69 h => ?_)
      refine v_iadd C dL_isPaid_84 ?_
      refine v_mask [true, true, true, true, true, true, true, true, true, true, true, false, false, false, false, false, false, false, false] (lc' := [some (.ref (ad G 9 0 0)), some (.ref (ad G 19 0 0)), some (.ref (ad G 20 0 0)), some (.ref (ad G 21 0 0)), some (.ref (ad G 22 0 0)), some (.ref (ad G 24 0 0)), some (.int a6), some (.int r1), some (.int ((11 : Int32) * r1)), some (.int ((σ2.1 336 0 (((11 : Int32) * r1) + (6 : Int32)).toNatClampNeg) + (σ2.1 336 0 (((11 : Int32) * r1) + (4 : Int32)).toNatClampNeg))), some (.int (σ2.1 336 0 (((11 : Int32) * r1) + (9 : Int32)).toNatClampNeg)), none, none, none, none, none, none, none, none]) rfl ?_
      exact hk7 _ _ h
    · refine v_if_ne C dL_isPaid_50 (tgt := 72) (by decide) h (fun h => ?_) (fun h => ?_)
      · refine v_mask [true, true, true, true, true, true, true, true, true, true, true, false, false, false, false, false, false, false, false] (lc' := [some (.ref (ad G 9 0 0)), some (.ref (ad G 19 0 0)), some (.ref (ad G 20 0 0)), some (.ref (ad G 21 0 0)), some (.ref (ad G 22 0 0)), some (.ref (ad G 24 0 0)), some (.int a6), some (.int r1), some (.int ((11 : Int32) * r1)), some (.int ((σ2.1 336 0 (((11 : Int32) * r1) + (6 : Int32)).toNatClampNeg) + (σ2.1 336 0 (((11 : Int32) * r1) + (4 : Int32)).toNatClampNeg))), some (.int (σ2.1 336 0 (((11 : Int32) * r1) + (9 : Int32)).toNatClampNeg)), none, none, none, none, none, none, none, none]) rfl ?_
        exact hk67 h
      · refine v_aload_n C dL_isPaid_53 rfl rfl ?_
        refine v_iload C dL_isPaid_54 rfl ?_
        refine v_iconst C dL_isPaid_56 ki_3 ?_
        refine v_iadd C dL_isPaid_57 ?_
        refine ld_21 C dL_isPaid_58 h (fun h => ?_)
        refine v_iconst C dL_isPaid_59 ki_1 ?_
        refine v_icmp_ne C dL_isPaid_60 (tgt := 72) (by decide) h (fun h => ?_) (fun h => ?_)
        · refine v_mask [true, true, true, true, true, true, true, true, true, true, true, false, false, false, false, false, false, false, false] (lc' := [some (.ref (ad G 9 0 0)), some (.ref (ad G 19 0 0)), some (.ref (ad G 20 0 0)), some (.ref (ad G 21 0 0)), some (.ref (ad G 22 0 0)), some (.ref (ad G 24 0 0)), some (.int a6), some (.int r1), some (.int ((11 : Int32) * r1)), some (.int ((σ2.1 336 0 (((11 : Int32) * r1) + (6 : Int32)).toNatClampNeg) + (σ2.1 336 0 (((11 : Int32) * r1) + (4 : Int32)).toNatClampNeg))), some (.int (σ2.1 336 0 (((11 : Int32) * r1) + (9 : Int32)).toNatClampNeg)), none, none, none, none, none, none, none, none]) rfl ?_
          exact hk67 h
        · refine v_aload_n C dL_isPaid_63 rfl rfl ?_
          refine v_iload C dL_isPaid_64 rfl ?_
          refine cVi C 9 0 0 (av := [.int r1]) si_X9_toRepay lk_L_48 (ok9) rfl rfl rfl rfl (st := []) rfl (Nat.le_of_ble_eq_true rfl) dL_isPaid_66 h (fun _ _ hc => s_X9_toRepay (d := (d + 1)) r1  hc) (fun r70 σ71 h => ?_)
          refine v_goto C dL_isPaid_69 (tgt := 85) (by decide) ?_
          refine v_mask [true, true, true, true, true, true, true, true, true, true, true, false, false, false, false, false, false, false, false] (lc' := [some (.ref (ad G 9 0 0)), some (.ref (ad G 19 0 0)), some (.ref (ad G 20 0 0)), some (.ref (ad G 21 0 0)), some (.ref (ad G 22 0 0)), some (.ref (ad G 24 0 0)), some (.int a6), some (.int r1), some (.int ((11 : Int32) * r1)), some (.int ((σ2.1 336 0 (((11 : Int32) * r1) + (6 : Int32)).toNatClampNeg) + (σ2.1 336 0 (((11 : Int32) * r1) + (4 : Int32)).toNatClampNeg))), some (.int (σ2.1 336 0 (((11 : Int32) * r1) + (9 : Int32)).toNatClampNeg)), none, none, none, none, none, none, none, none]) rfl ?_
          exact hk7 _ _ h

def dc_L_isSold (a6 : Int32) (σ : Sto) : Option (Int32 × Sto) :=
  (if inb (1 : Int32) 9 then (bd (dc_L_low a6 (σ.1 304 0 (1 : Int32).toNatClampNeg) σ) fun r1 σ2 => (bd (dc_L_low (a6 >>> ((14 : Int32) &&& 31)) (2 : Int32) σ2) fun r3 σ4 => jn (fun (v5 : Int32) => (bd (dc_L_low (a6 >>> ((3 : Int32) &&& 31)) v5 σ4) fun r7 σ8 => (if inb (((11 : Int32) * r1) + (3 : Int32)) 44 then jn (fun (σ9 : Sto) => (bd (dc_L_low (a6 >>> ((18 : Int32) &&& 31)) (36 : Int32) σ9) fun r11 σ12 => (if inb (((11 : Int32) * r1) + (3 : Int32)) 44 then jn ((bd (dc_X9_cure r1 ((1 : Int32) + r11) σ12) fun r14 σ15 => (if r14 = (-4 : Int32) then (bd (dc_X9_cure r1 (37 : Int32) σ15) fun r16 σ17 => (if r16 = (-2 : Int32) then some ((1 : Int32), σ17) else some ((0 : Int32), σ17))) else some ((0 : Int32), σ15)))) (fun k13 => (if (σ12.1 336 0 (((11 : Int32) * r1) + (3 : Int32)).toNatClampNeg) = (1 : Int32) then (if inb (((11 : Int32) * r1) + (8 : Int32)) 44 then (if (σ12.1 336 0 (((11 : Int32) * r1) + (8 : Int32)).toNatClampNeg) = 0 then k13  else (if inb (((11 : Int32) * r1) + (6 : Int32)) 44 then (if (σ12.1 336 0 (((11 : Int32) * r1) + (6 : Int32)).toNatClampNeg) ≤ 0 then (if inb (((11 : Int32) * r1) + (7 : Int32)) 44 then (if inb (((11 : Int32) * r1) + (8 : Int32)) 44 then (lt (up (up σ12 336 0 (((11 : Int32) * r1) + (7 : Int32)).toNatClampNeg (0 : Int32)) 336 0 (((11 : Int32) * r1) + (8 : Int32)).toNatClampNeg (0 : Int32)) fun σ18 => (if inb (((11 : Int32) * r1) + (4 : Int32)) 44 then (if ¬ ((1 : Int32) + r11) = 0 then (if inb (((11 : Int32) * r1) + (5 : Int32)) 44 then (bd (dc_X9_cure r1 ((1 : Int32) + r11) (up σ18 336 0 (((11 : Int32) * r1) + (5 : Int32)).toNatClampNeg ((((σ18.1 336 0 (((11 : Int32) * r1) + (4 : Int32)).toNatClampNeg) + ((1 : Int32) + r11)) - (1 : Int32)) / ((1 : Int32) + r11)))) fun r19 σ20 => (if inb (((11 : Int32) * r1) + (5 : Int32)) 44 then (if r19 = (σ20.1 336 0 (((11 : Int32) * r1) + (5 : Int32)).toNatClampNeg) then some ((1 : Int32), σ20) else some ((0 : Int32), σ20)) else none)) else none) else none) else none)) else none) else none) else k13 ) else none)) else none) else k13 )) else none))) (fun k10 => jn ((bd (dc_L_low (a6 >>> ((16 : Int32) &&& 31)) (3 : Int32) σ8) fun r22 σ23 => (if r22 = 0 then k10 σ23 else (if inb (((11 : Int32) * r1) + (3 : Int32)) 44 then jn ((bd (dc_X9_sell r1 r7 σ23) fun r25 σ26 => (if r25 = (-4 : Int32) then (bd (dc_X9_sell r1 (100000 : Int32) σ26) fun r27 σ28 => (if r27 = (-2 : Int32) then some ((1 : Int32), σ28) else some ((0 : Int32), σ28))) else some ((0 : Int32), σ26)))) (fun k24 => (if (σ23.1 336 0 (((11 : Int32) * r1) + (3 : Int32)).toNatClampNeg) = (1 : Int32) then (if inb (((11 : Int32) * r1) + (8 : Int32)) 44 then (if (3 : Int32) ≤ (σ23.1 336 0 (((11 : Int32) * r1) + (8 : Int32)).toNatClampNeg) then (if inb (3 : Int32) 9 then (bd (dc_L_repays r1 (0 : Int32) r7 σ23) fun r29 σ30 => (bd (dc_L_repays r1 (1 : Int32) r29 σ30) fun r31 σ32 => (if inb (3 : Int32) 9 then (if inb (3 : Int32) 9 then (bd (dc_L_repays r1 (0 : Int32) ((up σ32 304 0 (3 : Int32).toNatClampNeg ((σ23.1 304 0 (3 : Int32).toNatClampNeg) + r31)).1 304 0 (3 : Int32).toNatClampNeg) (up σ32 304 0 (3 : Int32).toNatClampNeg ((σ23.1 304 0 (3 : Int32).toNatClampNeg) + r31))) fun r33 σ34 => (if inb (3 : Int32) 9 then wh2 (fun (rec35 : Int32 → Int32 → Sto → Option (Int32 × Sto)) (x37 : Int32) (x38 : Int32) (σ36 : Sto) => (if inb (2 : Int32) 9 then (if (σ36.1 304 0 (2 : Int32).toNatClampNeg) ≤ x38 then (if inb (((11 : Int32) * r1) + (3 : Int32)) 44 then (if inb (((11 : Int32) * r1) + (4 : Int32)) 44 then (lt (up (up σ36 336 0 (((11 : Int32) * r1) + (3 : Int32)).toNatClampNeg (3 : Int32)) 336 0 (((11 : Int32) * r1) + (4 : Int32)).toNatClampNeg (0 : Int32)) fun σ39 => (if inb (((11 : Int32) * r1) + (6 : Int32)) 44 then (if inb (((11 : Int32) * r1) + (7 : Int32)) 44 then (lt (up (up σ39 336 0 (((11 : Int32) * r1) + (6 : Int32)).toNatClampNeg (0 : Int32)) 336 0 (((11 : Int32) * r1) + (7 : Int32)).toNatClampNeg (0 : Int32)) fun σ40 => (if inb (((11 : Int32) * r1) + (8 : Int32)) 44 then (if inb (((11 : Int32) * r1) + (10 : Int32)) 44 then (lt (up (up σ40 336 0 (((11 : Int32) * r1) + (8 : Int32)).toNatClampNeg (0 : Int32)) 336 0 (((11 : Int32) * r1) + (10 : Int32)).toNatClampNeg (-5 : Int32)) fun σ41 => (bd (dc_X9_sell r1 r7 σ41) fun r42 σ43 => (if r42 = x37 then (bd (dc_X9_sell r1 r7 σ43) fun r44 σ45 => (if r44 = (-4 : Int32) then some ((1 : Int32), σ45) else some ((0 : Int32), σ45))) else some ((0 : Int32), σ43)))) else none) else none)) else none) else none)) else none) else none) else (if inb (((6 : Int32) * x38) + (1 : Int32)) 60 then (if (σ36.1 352 0 (((6 : Int32) * x38) + (1 : Int32)).toNatClampNeg) = r1 then (if inb (((6 : Int32) * x38) + (3 : Int32)) 60 then (if inb (((6 : Int32) * x38) + (3 : Int32)) 60 then (if inb (((6 : Int32) * x38) + (5 : Int32)) 60 then (if inb ((6 : Int32) * x38) 60 then (if inb (((3 : Int32) * ((up σ36 352 0 (((6 : Int32) * x38) + (5 : Int32)).toNatClampNeg (σ36.1 352 0 (((6 : Int32) * x38) + (3 : Int32)).toNatClampNeg)).1 352 0 ((6 : Int32) * x38).toNatClampNeg)) + (2 : Int32)) 9 then (if inb (((6 : Int32) * x38) + (3 : Int32)) 60 then (if inb (((3 : Int32) * ((up σ36 352 0 (((6 : Int32) * x38) + (5 : Int32)).toNatClampNeg (σ36.1 352 0 (((6 : Int32) * x38) + (3 : Int32)).toNatClampNeg)).1 352 0 ((6 : Int32) * x38).toNatClampNeg)) + (2 : Int32)) 9 then (lt (up (up σ36 352 0 (((6 : Int32) * x38) + (5 : Int32)).toNatClampNeg (σ36.1 352 0 (((6 : Int32) * x38) + (3 : Int32)).toNatClampNeg)) 320 0 (((3 : Int32) * ((up σ36 352 0 (((6 : Int32) * x38) + (5 : Int32)).toNatClampNeg (σ36.1 352 0 (((6 : Int32) * x38) + (3 : Int32)).toNatClampNeg)).1 352 0 ((6 : Int32) * x38).toNatClampNeg)) + (2 : Int32)).toNatClampNeg (((up σ36 352 0 (((6 : Int32) * x38) + (5 : Int32)).toNatClampNeg (σ36.1 352 0 (((6 : Int32) * x38) + (3 : Int32)).toNatClampNeg)).1 320 0 (((3 : Int32) * ((up σ36 352 0 (((6 : Int32) * x38) + (5 : Int32)).toNatClampNeg (σ36.1 352 0 (((6 : Int32) * x38) + (3 : Int32)).toNatClampNeg)).1 352 0 ((6 : Int32) * x38).toNatClampNeg)) + (2 : Int32)).toNatClampNeg) + ((up σ36 352 0 (((6 : Int32) * x38) + (5 : Int32)).toNatClampNeg (σ36.1 352 0 (((6 : Int32) * x38) + (3 : Int32)).toNatClampNeg)).1 352 0 (((6 : Int32) * x38) + (3 : Int32)).toNatClampNeg))) fun σ46 => (if inb (((6 : Int32) * x38) + (3 : Int32)) 60 then rec35 (x37 + (σ36.1 352 0 (((6 : Int32) * x38) + (3 : Int32)).toNatClampNeg)) (x38 + 1) (up σ46 352 0 (((6 : Int32) * x38) + (3 : Int32)).toNatClampNeg (0 : Int32)) else none)) else none) else none) else none) else none) else none) else none) else none) else rec35 x37 (x38 + 1) σ36) else none)) else none)) FU (0 : Int32) (0 : Int32) (up σ34 304 0 (3 : Int32).toNatClampNeg r33) else none)) else none) else none))) else none) else k24 ) else none) else k24 )) else none)))) (fun k21 => (if (σ8.1 336 0 (((11 : Int32) * r1) + (3 : Int32)).toNatClampNeg) = (1 : Int32) then (if inb (((11 : Int32) * r1) + (8 : Int32)) 44 then (if (σ8.1 336 0 (((11 : Int32) * r1) + (8 : Int32)).toNatClampNeg) ≤ 0 then k21  else (if inb (((11 : Int32) * r1) + (6 : Int32)) 44 then (if (σ8.1 336 0 (((11 : Int32) * r1) + (6 : Int32)).toNatClampNeg) = 0 then k10 σ8 else k21 ) else none)) else none) else k21 ))) else none))) (fun k6 => (if r3 = 0 then k6 (400 : Int32) else k6 (20000 : Int32))))) else none)
set_option maxRecDepth 20000 in
set_option maxHeartbeats 4000000 in
theorem s_L_isSold {G : Gm} {d : Nat} (a6 : Int32) {σ τ : Sto} {r : Int32} (h : dc_L_isSold a6 σ = some (r, τ)) : Cl G (d + 4) m_L_isSold [.ref (ad G 9 0 0), .ref (ad G 19 0 0), .ref (ad G 20 0 0), .ref (ad G 21 0 0), .ref (ad G 22 0 0), .ref (ad G 24 0 0), .int a6] σ (some (.int r)) τ := by
  unfold dc_L_isSold at h
  refine Cl.mk (cc := cL_isSold) (own := RL) (nL := 12) (ret := (some .boolean)) rfl rfl rfl rfl (by decide +kernel) (catA rfl) (Nat.le_of_ble_eq_true rfl) (fun X C => ?_)
  show V X G 0 0 (QE X G (some (.int r)) τ) σ 0 [some (.ref (ad G 9 0 0)), some (.ref (ad G 19 0 0)), some (.ref (ad G 20 0 0)), some (.ref (ad G 21 0 0)), some (.ref (ad G 22 0 0)), some (.ref (ad G 24 0 0)), some (.int a6), none, none, none, none, none] []
  refine v_iload C dL_isSold_0 rfl ?_
  refine v_aload_n C dL_isSold_2 rfl rfl ?_
  refine v_iconst C dL_isSold_3 ki_1 ?_
  refine ld_19 C dL_isSold_4 h (fun h => ?_)
  refine cSi C (av := [.int a6, .int (σ.1 304 0 (1 : Int32).toNatClampNeg)]) si_L_low lk_L_41 rfl rfl (st := []) rfl (Nat.le_of_ble_eq_true rfl) dL_isSold_5 h (fun _ _ hc => s_L_low (d := (d + 3)) a6 (σ.1 304 0 (1 : Int32).toNatClampNeg)  hc) (fun r1 σ2 h => ?_)
  refine v_istore C dL_isSold_8 (Nat.le_of_ble_eq_true rfl) (lc1 := [some (.ref (ad G 9 0 0)), some (.ref (ad G 19 0 0)), some (.ref (ad G 20 0 0)), some (.ref (ad G 21 0 0)), some (.ref (ad G 22 0 0)), some (.ref (ad G 24 0 0)), some (.int a6), some (.int r1), none, none, none, none]) rfl ?_
  refine v_bipush C dL_isSold_10 kb_11 ?_
  refine v_iload C dL_isSold_12 rfl ?_
  refine v_imul C dL_isSold_14 ?_
  refine v_istore C dL_isSold_15 (Nat.le_of_ble_eq_true rfl) (lc1 := [some (.ref (ad G 9 0 0)), some (.ref (ad G 19 0 0)), some (.ref (ad G 20 0 0)), some (.ref (ad G 21 0 0)), some (.ref (ad G 22 0 0)), some (.ref (ad G 24 0 0)), some (.int a6), some (.int r1), some (.int ((11 : Int32) * r1)), none, none, none]) rfl ?_
  refine v_iload C dL_isSold_17 rfl ?_
  refine v_iconst C dL_isSold_19 ki_3 ?_
  refine v_ishr C dL_isSold_20 ?_
  refine v_iload C dL_isSold_21 rfl ?_
  refine v_bipush C dL_isSold_23 kb_14 ?_
  refine v_ishr C dL_isSold_25 ?_
  refine v_iconst C dL_isSold_26 ki_2 ?_
  refine cSi C (av := [.int (a6 >>> ((14 : Int32) &&& 31)), .int (2 : Int32)]) si_L_low lk_L_41 rfl rfl (st := [.int (a6 >>> ((3 : Int32) &&& 31))]) rfl (Nat.le_of_ble_eq_true rfl) dL_isSold_27 h (fun _ _ hc => s_L_low (d := (d + 3)) (a6 >>> ((14 : Int32) &&& 31)) (2 : Int32)  hc) (fun r3 σ4 h => ?_)
  refine v_join (fun k => ∀ (v5 : Int32), k v5 = some (r, τ) → V X G 0 0 (QE X G (some (.int r)) τ) σ4 42 [some (.ref (ad G 9 0 0)), some (.ref (ad G 19 0 0)), some (.ref (ad G 20 0 0)), some (.ref (ad G 21 0 0)), some (.ref (ad G 22 0 0)), some (.ref (ad G 24 0 0)), some (.int a6), some (.int r1), some (.int ((11 : Int32) * r1)), none, none, none] [.int v5, .int (a6 >>> ((3 : Int32) &&& 31))]) h (fun v5 h => ?_) (fun k6 hk6 h => ?_)
  · refine cSi C (av := [.int (a6 >>> ((3 : Int32) &&& 31)), .int v5]) si_L_low lk_L_41 rfl rfl (st := []) rfl (Nat.le_of_ble_eq_true rfl) dL_isSold_42 h (fun _ _ hc => s_L_low (d := (d + 3)) (a6 >>> ((3 : Int32) &&& 31)) v5  hc) (fun r7 σ8 h => ?_)
    refine v_istore C dL_isSold_45 (Nat.le_of_ble_eq_true rfl) (lc1 := [some (.ref (ad G 9 0 0)), some (.ref (ad G 19 0 0)), some (.ref (ad G 20 0 0)), some (.ref (ad G 21 0 0)), some (.ref (ad G 22 0 0)), some (.ref (ad G 24 0 0)), some (.int a6), some (.int r1), some (.int ((11 : Int32) * r1)), some (.int r7), none, none]) rfl ?_
    refine v_aload_n C dL_isSold_47 rfl rfl ?_
    refine v_iload C dL_isSold_48 rfl ?_
    refine v_iconst C dL_isSold_50 ki_3 ?_
    refine v_iadd C dL_isSold_51 ?_
    refine ld_21 C dL_isSold_52 h (fun h => ?_)
    refine v_iconst C dL_isSold_53 ki_1 ?_
    refine v_join (fun k => ∀ (σ9 : Sto), k σ9 = some (r, τ) → V X G 0 0 (QE X G (some (.int r)) τ) σ9 89 [some (.ref (ad G 9 0 0)), some (.ref (ad G 19 0 0)), some (.ref (ad G 20 0 0)), some (.ref (ad G 21 0 0)), some (.ref (ad G 22 0 0)), some (.ref (ad G 24 0 0)), some (.int a6), some (.int r1), some (.int ((11 : Int32) * r1)), some (.int r7), none, none] []) h (fun σ9 h => ?_) (fun k10 hk10 h => ?_)
    · refine v_iconst C dL_isSold_89 ki_1 ?_
      refine v_iload C dL_isSold_90 rfl ?_
      refine v_bipush C dL_isSold_92 kb_18 ?_
      refine v_ishr C dL_isSold_94 ?_
      refine v_bipush C dL_isSold_95 kb_36 ?_
      refine cSi C (av := [.int (a6 >>> ((18 : Int32) &&& 31)), .int (36 : Int32)]) si_L_low lk_L_41 rfl rfl (st := [.int (1 : Int32)]) rfl (Nat.le_of_ble_eq_true rfl) dL_isSold_97 h (fun _ _ hc => s_L_low (d := (d + 3)) (a6 >>> ((18 : Int32) &&& 31)) (36 : Int32)  hc) (fun r11 σ12 h => ?_)
      refine v_iadd C dL_isSold_100 ?_
      refine v_istore C dL_isSold_101 (Nat.le_of_ble_eq_true rfl) (lc1 := [some (.ref (ad G 9 0 0)), some (.ref (ad G 19 0 0)), some (.ref (ad G 20 0 0)), some (.ref (ad G 21 0 0)), some (.ref (ad G 22 0 0)), some (.ref (ad G 24 0 0)), some (.int a6), some (.int r1), some (.int ((11 : Int32) * r1)), some (.int r7), some (.int ((1 : Int32) + r11)), none]) rfl ?_
      refine v_aload_n C dL_isSold_103 rfl rfl ?_
      refine v_iload C dL_isSold_104 rfl ?_
      refine v_iconst C dL_isSold_106 ki_3 ?_
      refine v_iadd C dL_isSold_107 ?_
      refine ld_21 C dL_isSold_108 h (fun h => ?_)
      refine v_iconst C dL_isSold_109 ki_1 ?_
      refine v_join (fun k => k = some (r, τ) → V X G 0 0 (QE X G (some (.int r)) τ) σ12 133 [some (.ref (ad G 9 0 0)), some (.ref (ad G 19 0 0)), some (.ref (ad G 20 0 0)), some (.ref (ad G 21 0 0)), some (.ref (ad G 22 0 0)), some (.ref (ad G 24 0 0)), some (.int a6), some (.int r1), some (.int ((11 : Int32) * r1)), some (.int r7), some (.int ((1 : Int32) + r11)), none] []) h (fun h => ?_) (fun k13 hk13 h => ?_)
      · refine v_aload_n C dL_isSold_133 rfl rfl ?_
        refine v_iload C dL_isSold_134 rfl ?_
        refine v_iload C dL_isSold_136 rfl ?_
        refine cVi C 9 0 0 (av := [.int r1, .int ((1 : Int32) + r11)]) si_X9_cure lk_L_67 (ok9) rfl rfl rfl rfl (st := []) rfl (Nat.le_of_ble_eq_true rfl) dL_isSold_138 h (fun _ _ hc => s_X9_cure (d := d) r1 ((1 : Int32) + r11)  hc) (fun r14 σ15 h => ?_)
        refine v_bipush C dL_isSold_141 kb_m4 ?_
        refine v_icmp_ne C dL_isSold_143 (tgt := 163) (by decide) h (fun h => ?_) (fun h => ?_)
        · refine v_iconst C dL_isSold_163 ki_0 ?_
          exact v_zretc C dL_isSold_164 (nar01 (Or.inl rfl)) h
        · refine v_aload_n C dL_isSold_146 rfl rfl ?_
          refine v_iload C dL_isSold_147 rfl ?_
          refine v_bipush C dL_isSold_149 kb_37 ?_
          refine cVi C 9 0 0 (av := [.int r1, .int (37 : Int32)]) si_X9_cure lk_L_67 (ok9) rfl rfl rfl rfl (st := []) rfl (Nat.le_of_ble_eq_true rfl) dL_isSold_151 h (fun _ _ hc => s_X9_cure (d := d) r1 (37 : Int32)  hc) (fun r16 σ17 h => ?_)
          refine v_bipush C dL_isSold_154 kb_m2 ?_
          refine v_icmp_ne C dL_isSold_156 (tgt := 163) (by decide) h (fun h => ?_) (fun h => ?_)
          · refine v_iconst C dL_isSold_163 ki_0 ?_
            exact v_zretc C dL_isSold_164 (nar01 (Or.inl rfl)) h
          · refine v_iconst C dL_isSold_159 ki_1 ?_
            refine v_goto C dL_isSold_160 (tgt := 164) (by decide) ?_
            exact v_zretc C dL_isSold_164 (nar01 (Or.inr rfl)) h
      · refine v_icmp_ne C dL_isSold_110 (tgt := 133) (by decide) h (fun h => ?_) (fun h => ?_)
        · refine v_mask [true, true, true, true, true, true, true, true, true, true, true, false] (lc' := [some (.ref (ad G 9 0 0)), some (.ref (ad G 19 0 0)), some (.ref (ad G 20 0 0)), some (.ref (ad G 21 0 0)), some (.ref (ad G 22 0 0)), some (.ref (ad G 24 0 0)), some (.int a6), some (.int r1), some (.int ((11 : Int32) * r1)), some (.int r7), some (.int ((1 : Int32) + r11)), none]) rfl ?_
          exact hk13 h
        · refine v_aload_n C dL_isSold_113 rfl rfl ?_
          refine v_iload C dL_isSold_114 rfl ?_
          refine v_bipush C dL_isSold_116 kb_8 ?_
          refine v_iadd C dL_isSold_118 ?_
          refine ld_21 C dL_isSold_119 h (fun h => ?_)
          refine v_if_eq C dL_isSold_120 (tgt := 133) (by decide) h (fun h => ?_) (fun h => ?_)
          · refine v_mask [true, true, true, true, true, true, true, true, true, true, true, false] (lc' := [some (.ref (ad G 9 0 0)), some (.ref (ad G 19 0 0)), some (.ref (ad G 20 0 0)), some (.ref (ad G 21 0 0)), some (.ref (ad G 22 0 0)), some (.ref (ad G 24 0 0)), some (.int a6), some (.int r1), some (.int ((11 : Int32) * r1)), some (.int r7), some (.int ((1 : Int32) + r11)), none]) rfl ?_
            exact hk13 h
          · refine v_aload_n C dL_isSold_123 rfl rfl ?_
            refine v_iload C dL_isSold_124 rfl ?_
            refine v_bipush C dL_isSold_126 kb_6 ?_
            refine v_iadd C dL_isSold_128 ?_
            refine ld_21 C dL_isSold_129 h (fun h => ?_)
            refine v_if_le C dL_isSold_130 (tgt := 165) (by decide) h (fun h => ?_) (fun h => ?_)
            · refine v_aload_n C dL_isSold_165 rfl rfl ?_
              refine v_iload C dL_isSold_166 rfl ?_
              refine v_bipush C dL_isSold_168 kb_7 ?_
              refine v_iadd C dL_isSold_170 ?_
              refine v_iconst C dL_isSold_171 ki_0 ?_
              refine as_21 C dL_isSold_172 h (fun h => ?_)
              refine v_aload_n C dL_isSold_173 rfl rfl ?_
              refine v_iload C dL_isSold_174 rfl ?_
              refine v_bipush C dL_isSold_176 kb_8 ?_
              refine v_iadd C dL_isSold_178 ?_
              refine v_iconst C dL_isSold_179 ki_0 ?_
              refine as_21 C dL_isSold_180 h (fun h => ?_)
              refine v_lt h (fun σ18 h => ?_)
              refine v_aload_n C dL_isSold_181 rfl rfl ?_
              refine v_iload C dL_isSold_182 rfl ?_
              refine v_iconst C dL_isSold_184 ki_5 ?_
              refine v_iadd C dL_isSold_185 ?_
              refine v_aload_n C dL_isSold_186 rfl rfl ?_
              refine v_iload C dL_isSold_187 rfl ?_
              refine v_iconst C dL_isSold_189 ki_4 ?_
              refine v_iadd C dL_isSold_190 ?_
              refine ld_21 C dL_isSold_191 h (fun h => ?_)
              refine v_iload C dL_isSold_192 rfl ?_
              refine v_iadd C dL_isSold_194 ?_
              refine v_iconst C dL_isSold_195 ki_1 ?_
              refine v_isub C dL_isSold_196 ?_
              refine v_iload C dL_isSold_197 rfl ?_
              refine v_idiv C dL_isSold_199 (if_some h).1 ?_
              have h := (if_some h).2
              refine as_21 C dL_isSold_200 h (fun h => ?_)
              refine v_aload_n C dL_isSold_201 rfl rfl ?_
              refine v_iload C dL_isSold_202 rfl ?_
              refine v_iload C dL_isSold_204 rfl ?_
              refine cVi C 9 0 0 (av := [.int r1, .int ((1 : Int32) + r11)]) si_X9_cure lk_L_67 (ok9) rfl rfl rfl rfl (st := []) rfl (Nat.le_of_ble_eq_true rfl) dL_isSold_206 h (fun _ _ hc => s_X9_cure (d := d) r1 ((1 : Int32) + r11)  hc) (fun r19 σ20 h => ?_)
              refine v_aload_n C dL_isSold_209 rfl rfl ?_
              refine v_iload C dL_isSold_210 rfl ?_
              refine v_iconst C dL_isSold_212 ki_5 ?_
              refine v_iadd C dL_isSold_213 ?_
              refine ld_21 C dL_isSold_214 h (fun h => ?_)
              refine v_icmp_ne C dL_isSold_215 (tgt := 222) (by decide) h (fun h => ?_) (fun h => ?_)
              · refine v_iconst C dL_isSold_222 ki_0 ?_
                exact v_zretc C dL_isSold_223 (nar01 (Or.inl rfl)) h
              · refine v_iconst C dL_isSold_218 ki_1 ?_
                refine v_goto C dL_isSold_219 (tgt := 223) (by decide) ?_
                exact v_zretc C dL_isSold_223 (nar01 (Or.inr rfl)) h
            · refine v_mask [true, true, true, true, true, true, true, true, true, true, true, false] (lc' := [some (.ref (ad G 9 0 0)), some (.ref (ad G 19 0 0)), some (.ref (ad G 20 0 0)), some (.ref (ad G 21 0 0)), some (.ref (ad G 22 0 0)), some (.ref (ad G 24 0 0)), some (.int a6), some (.int r1), some (.int ((11 : Int32) * r1)), some (.int r7), some (.int ((1 : Int32) + r11)), none]) rfl ?_
              exact hk13 h
    · refine v_join (fun k => k = some (r, τ) → V X G 0 0 (QE X G (some (.int r)) τ) σ8 77 [some (.ref (ad G 9 0 0)), some (.ref (ad G 19 0 0)), some (.ref (ad G 20 0 0)), some (.ref (ad G 21 0 0)), some (.ref (ad G 22 0 0)), some (.ref (ad G 24 0 0)), some (.int a6), some (.int r1), some (.int ((11 : Int32) * r1)), some (.int r7), none, none] []) h (fun h => ?_) (fun k21 hk21 h => ?_)
      · refine v_iload C dL_isSold_77 rfl ?_
        refine v_bipush C dL_isSold_79 kb_16 ?_
        refine v_ishr C dL_isSold_81 ?_
        refine v_iconst C dL_isSold_82 ki_3 ?_
        refine cSi C (av := [.int (a6 >>> ((16 : Int32) &&& 31)), .int (3 : Int32)]) si_L_low lk_L_41 rfl rfl (st := []) rfl (Nat.le_of_ble_eq_true rfl) dL_isSold_83 h (fun _ _ hc => s_L_low (d := (d + 3)) (a6 >>> ((16 : Int32) &&& 31)) (3 : Int32)  hc) (fun r22 σ23 h => ?_)
        refine v_if_ne C dL_isSold_86 (tgt := 224) (by decide) h (fun h => ?_) (fun h => ?_)
        · refine v_aload_n C dL_isSold_224 rfl rfl ?_
          refine v_iload C dL_isSold_225 rfl ?_
          refine v_iconst C dL_isSold_227 ki_3 ?_
          refine v_iadd C dL_isSold_228 ?_
          refine ld_21 C dL_isSold_229 h (fun h => ?_)
          refine v_iconst C dL_isSold_230 ki_1 ?_
          refine v_join (fun k => k = some (r, τ) → V X G 0 0 (QE X G (some (.int r)) τ) σ23 245 [some (.ref (ad G 9 0 0)), some (.ref (ad G 19 0 0)), some (.ref (ad G 20 0 0)), some (.ref (ad G 21 0 0)), some (.ref (ad G 22 0 0)), some (.ref (ad G 24 0 0)), some (.int a6), some (.int r1), some (.int ((11 : Int32) * r1)), some (.int r7), none, none] []) h (fun h => ?_) (fun k24 hk24 h => ?_)
          · refine v_aload_n C dL_isSold_245 rfl rfl ?_
            refine v_iload C dL_isSold_246 rfl ?_
            refine v_iload C dL_isSold_248 rfl ?_
            refine cVi C 9 0 0 (av := [.int r1, .int r7]) si_X9_sell lk_L_70 (ok9) rfl rfl rfl rfl (st := []) rfl (Nat.le_of_ble_eq_true rfl) dL_isSold_250 h (fun _ _ hc => s_X9_sell (d := d) r1 r7  hc) (fun r25 σ26 h => ?_)
            refine v_bipush C dL_isSold_253 kb_m4 ?_
            refine v_icmp_ne C dL_isSold_255 (tgt := 275) (by decide) h (fun h => ?_) (fun h => ?_)
            · refine v_iconst C dL_isSold_275 ki_0 ?_
              exact v_zretc C dL_isSold_276 (nar01 (Or.inl rfl)) h
            · refine v_aload_n C dL_isSold_258 rfl rfl ?_
              refine v_iload C dL_isSold_259 rfl ?_
              refine v_ldc C dL_isSold_261 lk_L_73 ?_
              refine cVi C 9 0 0 (av := [.int r1, .int (100000 : Int32)]) si_X9_sell lk_L_70 (ok9) rfl rfl rfl rfl (st := []) rfl (Nat.le_of_ble_eq_true rfl) dL_isSold_263 h (fun _ _ hc => s_X9_sell (d := d) r1 (100000 : Int32)  hc) (fun r27 σ28 h => ?_)
              refine v_bipush C dL_isSold_266 kb_m2 ?_
              refine v_icmp_ne C dL_isSold_268 (tgt := 275) (by decide) h (fun h => ?_) (fun h => ?_)
              · refine v_iconst C dL_isSold_275 ki_0 ?_
                exact v_zretc C dL_isSold_276 (nar01 (Or.inl rfl)) h
              · refine v_iconst C dL_isSold_271 ki_1 ?_
                refine v_goto C dL_isSold_272 (tgt := 276) (by decide) ?_
                exact v_zretc C dL_isSold_276 (nar01 (Or.inr rfl)) h
          · refine v_icmp_ne C dL_isSold_231 (tgt := 245) (by decide) h (fun h => ?_) (fun h => ?_)
            · refine v_mask [true, true, true, true, true, true, true, true, true, true, false, false] (lc' := [some (.ref (ad G 9 0 0)), some (.ref (ad G 19 0 0)), some (.ref (ad G 20 0 0)), some (.ref (ad G 21 0 0)), some (.ref (ad G 22 0 0)), some (.ref (ad G 24 0 0)), some (.int a6), some (.int r1), some (.int ((11 : Int32) * r1)), some (.int r7), none, none]) rfl ?_
              exact hk24 h
            · refine v_aload_n C dL_isSold_234 rfl rfl ?_
              refine v_iload C dL_isSold_235 rfl ?_
              refine v_bipush C dL_isSold_237 kb_8 ?_
              refine v_iadd C dL_isSold_239 ?_
              refine ld_21 C dL_isSold_240 h (fun h => ?_)
              refine v_iconst C dL_isSold_241 ki_3 ?_
              refine v_icmp_ge C dL_isSold_242 (tgt := 277) (by decide) h (fun h => ?_) (fun h => ?_)
              · refine v_aload_n C dL_isSold_277 rfl rfl ?_
                refine v_iconst C dL_isSold_278 ki_3 ?_
                refine v_dup2 C dL_isSold_279 rfl rfl ?_
                refine ld_19 C dL_isSold_280 h (fun h => ?_)
                refine v_aload_n C dL_isSold_281 rfl rfl ?_
                refine v_aload_n C dL_isSold_282 rfl rfl ?_
                refine v_aload C dL_isSold_283 rfl ?_
                refine v_iload C dL_isSold_285 rfl ?_
                refine v_iconst C dL_isSold_287 ki_1 ?_
                refine v_aload_n C dL_isSold_288 rfl rfl ?_
                refine v_aload_n C dL_isSold_289 rfl rfl ?_
                refine v_aload C dL_isSold_290 rfl ?_
                refine v_iload C dL_isSold_292 rfl ?_
                refine v_iconst C dL_isSold_294 ki_0 ?_
                refine v_iload C dL_isSold_295 rfl ?_
                refine v_aload C dL_isSold_297 rfl ?_
                refine cSi C (av := [.ref (ad G 19 0 0), .ref (ad G 20 0 0), .ref (ad G 22 0 0), .int r1, .int (0 : Int32), .int r7, .ref (ad G 24 0 0)]) si_L_repays lk_L_63 rfl rfl (st := [.int (1 : Int32), .int r1, .ref (ad G 22 0 0), .ref (ad G 20 0 0), .ref (ad G 19 0 0), .int (σ23.1 304 0 (3 : Int32).toNatClampNeg), .int (3 : Int32), .ref (ad G 19 0 0)]) rfl (Nat.le_of_ble_eq_true rfl) dL_isSold_299 h (fun _ _ hc => s_L_repays (d := (d + 1)) r1 (0 : Int32) r7  hc) (fun r29 σ30 h => ?_)
                refine v_aload C dL_isSold_302 rfl ?_
                refine cSi C (av := [.ref (ad G 19 0 0), .ref (ad G 20 0 0), .ref (ad G 22 0 0), .int r1, .int (1 : Int32), .int r29, .ref (ad G 24 0 0)]) si_L_repays lk_L_63 rfl rfl (st := [.int (σ23.1 304 0 (3 : Int32).toNatClampNeg), .int (3 : Int32), .ref (ad G 19 0 0)]) rfl (Nat.le_of_ble_eq_true rfl) dL_isSold_304 h (fun _ _ hc => s_L_repays (d := (d + 1)) r1 (1 : Int32) r29  hc) (fun r31 σ32 h => ?_)
                refine v_iadd C dL_isSold_307 ?_
                refine as_19 C dL_isSold_308 h (fun h => ?_)
                refine v_aload_n C dL_isSold_309 rfl rfl ?_
                refine v_iconst C dL_isSold_310 ki_3 ?_
                refine v_aload_n C dL_isSold_311 rfl rfl ?_
                refine v_aload_n C dL_isSold_312 rfl rfl ?_
                refine v_aload C dL_isSold_313 rfl ?_
                refine v_iload C dL_isSold_315 rfl ?_
                refine v_iconst C dL_isSold_317 ki_0 ?_
                refine v_aload_n C dL_isSold_318 rfl rfl ?_
                refine v_iconst C dL_isSold_319 ki_3 ?_
                refine ld_19 C dL_isSold_320 h (fun h => ?_)
                refine v_aload C dL_isSold_321 rfl ?_
                refine cSi C (av := [.ref (ad G 19 0 0), .ref (ad G 20 0 0), .ref (ad G 22 0 0), .int r1, .int (0 : Int32), .int ((up σ32 304 0 (3 : Int32).toNatClampNeg ((σ23.1 304 0 (3 : Int32).toNatClampNeg) + r31)).1 304 0 (3 : Int32).toNatClampNeg), .ref (ad G 24 0 0)]) si_L_repays lk_L_63 rfl rfl (st := [.int (3 : Int32), .ref (ad G 19 0 0)]) rfl (Nat.le_of_ble_eq_true rfl) dL_isSold_323 h (fun _ _ hc => s_L_repays (d := (d + 1)) r1 (0 : Int32) ((up σ32 304 0 (3 : Int32).toNatClampNeg ((σ23.1 304 0 (3 : Int32).toNatClampNeg) + r31)).1 304 0 (3 : Int32).toNatClampNeg)  hc) (fun r33 σ34 h => ?_)
                refine as_19 C dL_isSold_326 h (fun h => ?_)
                refine v_iconst C dL_isSold_327 ki_0 ?_
                refine v_istore C dL_isSold_328 (Nat.le_of_ble_eq_true rfl) (lc1 := [some (.ref (ad G 9 0 0)), some (.ref (ad G 19 0 0)), some (.ref (ad G 20 0 0)), some (.ref (ad G 21 0 0)), some (.ref (ad G 22 0 0)), some (.ref (ad G 24 0 0)), some (.int a6), some (.int r1), some (.int ((11 : Int32) * r1)), some (.int r7), some (.int (0 : Int32)), none]) rfl ?_
                refine v_iconst C dL_isSold_330 ki_0 ?_
                refine v_istore C dL_isSold_331 (Nat.le_of_ble_eq_true rfl) (lc1 := [some (.ref (ad G 9 0 0)), some (.ref (ad G 19 0 0)), some (.ref (ad G 20 0 0)), some (.ref (ad G 21 0 0)), some (.ref (ad G 22 0 0)), some (.ref (ad G 24 0 0)), some (.int a6), some (.int r1), some (.int ((11 : Int32) * r1)), some (.int r7), some (.int (0 : Int32)), some (.int (0 : Int32))]) rfl ?_
                refine v_loop2 (fun x37 x38 σ36 => V X G 0 0 (QE X G (some (.int r)) τ) σ36 333 [some (.ref (ad G 9 0 0)), some (.ref (ad G 19 0 0)), some (.ref (ad G 20 0 0)), some (.ref (ad G 21 0 0)), some (.ref (ad G 22 0 0)), some (.ref (ad G 24 0 0)), some (.int a6), some (.int r1), some (.int ((11 : Int32) * r1)), some (.int r7), some (.int x37), some (.int x38)] []) (fun rec35 hrec35 x37 x38 σ36 h => ?_) h
                refine v_iload C dL_isSold_333 rfl ?_
                refine v_aload_n C dL_isSold_335 rfl rfl ?_
                refine v_iconst C dL_isSold_336 ki_2 ?_
                refine ld_19 C dL_isSold_337 h (fun h => ?_)
                refine v_icmp_ge C dL_isSold_338 (tgt := 435) (by decide) h (fun h => ?_) (fun h => ?_)
                · refine v_aload_n C dL_isSold_435 rfl rfl ?_
                  refine v_iload C dL_isSold_436 rfl ?_
                  refine v_iconst C dL_isSold_438 ki_3 ?_
                  refine v_iadd C dL_isSold_439 ?_
                  refine v_iconst C dL_isSold_440 ki_3 ?_
                  refine as_21 C dL_isSold_441 h (fun h => ?_)
                  refine v_aload_n C dL_isSold_442 rfl rfl ?_
                  refine v_iload C dL_isSold_443 rfl ?_
                  refine v_iconst C dL_isSold_445 ki_4 ?_
                  refine v_iadd C dL_isSold_446 ?_
                  refine v_iconst C dL_isSold_447 ki_0 ?_
                  refine as_21 C dL_isSold_448 h (fun h => ?_)
                  refine v_lt h (fun σ39 h => ?_)
                  refine v_aload_n C dL_isSold_449 rfl rfl ?_
                  refine v_iload C dL_isSold_450 rfl ?_
                  refine v_bipush C dL_isSold_452 kb_6 ?_
                  refine v_iadd C dL_isSold_454 ?_
                  refine v_iconst C dL_isSold_455 ki_0 ?_
                  refine as_21 C dL_isSold_456 h (fun h => ?_)
                  refine v_aload_n C dL_isSold_457 rfl rfl ?_
                  refine v_iload C dL_isSold_458 rfl ?_
                  refine v_bipush C dL_isSold_460 kb_7 ?_
                  refine v_iadd C dL_isSold_462 ?_
                  refine v_iconst C dL_isSold_463 ki_0 ?_
                  refine as_21 C dL_isSold_464 h (fun h => ?_)
                  refine v_lt h (fun σ40 h => ?_)
                  refine v_aload_n C dL_isSold_465 rfl rfl ?_
                  refine v_iload C dL_isSold_466 rfl ?_
                  refine v_bipush C dL_isSold_468 kb_8 ?_
                  refine v_iadd C dL_isSold_470 ?_
                  refine v_iconst C dL_isSold_471 ki_0 ?_
                  refine as_21 C dL_isSold_472 h (fun h => ?_)
                  refine v_aload_n C dL_isSold_473 rfl rfl ?_
                  refine v_iload C dL_isSold_474 rfl ?_
                  refine v_bipush C dL_isSold_476 kb_10 ?_
                  refine v_iadd C dL_isSold_478 ?_
                  refine v_bipush C dL_isSold_479 kb_m5 ?_
                  refine as_21 C dL_isSold_481 h (fun h => ?_)
                  refine v_lt h (fun σ41 h => ?_)
                  refine v_aload_n C dL_isSold_482 rfl rfl ?_
                  refine v_iload C dL_isSold_483 rfl ?_
                  refine v_iload C dL_isSold_485 rfl ?_
                  refine cVi C 9 0 0 (av := [.int r1, .int r7]) si_X9_sell lk_L_70 (ok9) rfl rfl rfl rfl (st := []) rfl (Nat.le_of_ble_eq_true rfl) dL_isSold_487 h (fun _ _ hc => s_X9_sell (d := d) r1 r7  hc) (fun r42 σ43 h => ?_)
                  refine v_iload C dL_isSold_490 rfl ?_
                  refine v_icmp_ne C dL_isSold_492 (tgt := 512) (by decide) h (fun h => ?_) (fun h => ?_)
                  · refine v_iconst C dL_isSold_512 ki_0 ?_
                    exact v_zretc C dL_isSold_513 (nar01 (Or.inl rfl)) h
                  · refine v_aload_n C dL_isSold_495 rfl rfl ?_
                    refine v_iload C dL_isSold_496 rfl ?_
                    refine v_iload C dL_isSold_498 rfl ?_
                    refine cVi C 9 0 0 (av := [.int r1, .int r7]) si_X9_sell lk_L_70 (ok9) rfl rfl rfl rfl (st := []) rfl (Nat.le_of_ble_eq_true rfl) dL_isSold_500 h (fun _ _ hc => s_X9_sell (d := d) r1 r7  hc) (fun r44 σ45 h => ?_)
                    refine v_bipush C dL_isSold_503 kb_m4 ?_
                    refine v_icmp_ne C dL_isSold_505 (tgt := 512) (by decide) h (fun h => ?_) (fun h => ?_)
                    · refine v_iconst C dL_isSold_512 ki_0 ?_
                      exact v_zretc C dL_isSold_513 (nar01 (Or.inl rfl)) h
                    · refine v_iconst C dL_isSold_508 ki_1 ?_
                      refine v_goto C dL_isSold_509 (tgt := 513) (by decide) ?_
                      exact v_zretc C dL_isSold_513 (nar01 (Or.inr rfl)) h
                · refine v_aload C dL_isSold_341 rfl ?_
                  refine v_bipush C dL_isSold_343 kb_6 ?_
                  refine v_iload C dL_isSold_345 rfl ?_
                  refine v_imul C dL_isSold_347 ?_
                  refine v_iconst C dL_isSold_348 ki_1 ?_
                  refine v_iadd C dL_isSold_349 ?_
                  refine ld_22 C dL_isSold_350 h (fun h => ?_)
                  refine v_iload C dL_isSold_351 rfl ?_
                  refine v_icmp_ne C dL_isSold_353 (tgt := 429) (by decide) h (fun h => ?_) (fun h => ?_)
                  · refine v_iinc C dL_isSold_429 rfl (kc_1 _) (lc1 := [some (.ref (ad G 9 0 0)), some (.ref (ad G 19 0 0)), some (.ref (ad G 20 0 0)), some (.ref (ad G 21 0 0)), some (.ref (ad G 22 0 0)), some (.ref (ad G 24 0 0)), some (.int a6), some (.int r1), some (.int ((11 : Int32) * r1)), some (.int r7), some (.int x37), some (.int (x38 + 1))]) rfl ?_
                    refine v_goto C dL_isSold_432 (tgt := 333) (by decide) ?_
                    refine v_mask [true, true, true, true, true, true, true, true, true, true, true, true] (lc' := [some (.ref (ad G 9 0 0)), some (.ref (ad G 19 0 0)), some (.ref (ad G 20 0 0)), some (.ref (ad G 21 0 0)), some (.ref (ad G 22 0 0)), some (.ref (ad G 24 0 0)), some (.int a6), some (.int r1), some (.int ((11 : Int32) * r1)), some (.int r7), some (.int x37), some (.int (x38 + 1))]) rfl ?_
                    exact hrec35 _ _ _ h
                  · refine v_iload C dL_isSold_356 rfl ?_
                    refine v_aload C dL_isSold_358 rfl ?_
                    refine v_bipush C dL_isSold_360 kb_6 ?_
                    refine v_iload C dL_isSold_362 rfl ?_
                    refine v_imul C dL_isSold_364 ?_
                    refine v_iconst C dL_isSold_365 ki_3 ?_
                    refine v_iadd C dL_isSold_366 ?_
                    refine ld_22 C dL_isSold_367 h (fun h => ?_)
                    refine v_iadd C dL_isSold_368 ?_
                    refine v_istore C dL_isSold_369 (Nat.le_of_ble_eq_true rfl) (lc1 := [some (.ref (ad G 9 0 0)), some (.ref (ad G 19 0 0)), some (.ref (ad G 20 0 0)), some (.ref (ad G 21 0 0)), some (.ref (ad G 22 0 0)), some (.ref (ad G 24 0 0)), some (.int a6), some (.int r1), some (.int ((11 : Int32) * r1)), some (.int r7), some (.int (x37 + (σ36.1 352 0 (((6 : Int32) * x38) + (3 : Int32)).toNatClampNeg))), some (.int x38)]) rfl ?_
                    refine v_aload C dL_isSold_371 rfl ?_
                    refine v_bipush C dL_isSold_373 kb_6 ?_
                    refine v_iload C dL_isSold_375 rfl ?_
                    refine v_imul C dL_isSold_377 ?_
                    refine v_iconst C dL_isSold_378 ki_5 ?_
                    refine v_iadd C dL_isSold_379 ?_
                    refine v_aload C dL_isSold_380 rfl ?_
                    refine v_bipush C dL_isSold_382 kb_6 ?_
                    refine v_iload C dL_isSold_384 rfl ?_
                    refine v_imul C dL_isSold_386 ?_
                    refine v_iconst C dL_isSold_387 ki_3 ?_
                    refine v_iadd C dL_isSold_388 ?_
                    refine ld_22 C dL_isSold_389 h (fun h => ?_)
                    refine as_22 C dL_isSold_390 h (fun h => ?_)
                    refine v_aload_n C dL_isSold_391 rfl rfl ?_
                    refine v_iconst C dL_isSold_392 ki_3 ?_
                    refine v_aload C dL_isSold_393 rfl ?_
                    refine v_bipush C dL_isSold_395 kb_6 ?_
                    refine v_iload C dL_isSold_397 rfl ?_
                    refine v_imul C dL_isSold_399 ?_
                    refine ld_22 C dL_isSold_400 h (fun h => ?_)
                    refine v_imul C dL_isSold_401 ?_
                    refine v_iconst C dL_isSold_402 ki_2 ?_
                    refine v_iadd C dL_isSold_403 ?_
                    refine v_dup2 C dL_isSold_404 rfl rfl ?_
                    refine ld_20 C dL_isSold_405 h (fun h => ?_)
                    refine v_aload C dL_isSold_406 rfl ?_
                    refine v_bipush C dL_isSold_408 kb_6 ?_
                    refine v_iload C dL_isSold_410 rfl ?_
                    refine v_imul C dL_isSold_412 ?_
                    refine v_iconst C dL_isSold_413 ki_3 ?_
                    refine v_iadd C dL_isSold_414 ?_
                    refine ld_22 C dL_isSold_415 h (fun h => ?_)
                    refine v_iadd C dL_isSold_416 ?_
                    refine as_20 C dL_isSold_417 h (fun h => ?_)
                    refine v_lt h (fun σ46 h => ?_)
                    refine v_aload C dL_isSold_418 rfl ?_
                    refine v_bipush C dL_isSold_420 kb_6 ?_
                    refine v_iload C dL_isSold_422 rfl ?_
                    refine v_imul C dL_isSold_424 ?_
                    refine v_iconst C dL_isSold_425 ki_3 ?_
                    refine v_iadd C dL_isSold_426 ?_
                    refine v_iconst C dL_isSold_427 ki_0 ?_
                    refine as_22 C dL_isSold_428 h (fun h => ?_)
                    refine v_iinc C dL_isSold_429 rfl (kc_1 _) (lc1 := [some (.ref (ad G 9 0 0)), some (.ref (ad G 19 0 0)), some (.ref (ad G 20 0 0)), some (.ref (ad G 21 0 0)), some (.ref (ad G 22 0 0)), some (.ref (ad G 24 0 0)), some (.int a6), some (.int r1), some (.int ((11 : Int32) * r1)), some (.int r7), some (.int (x37 + (σ36.1 352 0 (((6 : Int32) * x38) + (3 : Int32)).toNatClampNeg))), some (.int (x38 + 1))]) rfl ?_
                    refine v_goto C dL_isSold_432 (tgt := 333) (by decide) ?_
                    refine v_mask [true, true, true, true, true, true, true, true, true, true, true, true] (lc' := [some (.ref (ad G 9 0 0)), some (.ref (ad G 19 0 0)), some (.ref (ad G 20 0 0)), some (.ref (ad G 21 0 0)), some (.ref (ad G 22 0 0)), some (.ref (ad G 24 0 0)), some (.int a6), some (.int r1), some (.int ((11 : Int32) * r1)), some (.int r7), some (.int (x37 + (σ36.1 352 0 (((6 : Int32) * x38) + (3 : Int32)).toNatClampNeg))), some (.int (x38 + 1))]) rfl ?_
                    exact hrec35 _ _ _ h
              · refine v_mask [true, true, true, true, true, true, true, true, true, true, false, false] (lc' := [some (.ref (ad G 9 0 0)), some (.ref (ad G 19 0 0)), some (.ref (ad G 20 0 0)), some (.ref (ad G 21 0 0)), some (.ref (ad G 22 0 0)), some (.ref (ad G 24 0 0)), some (.int a6), some (.int r1), some (.int ((11 : Int32) * r1)), some (.int r7), none, none]) rfl ?_
                exact hk24 h
        · refine v_mask [true, true, true, true, true, true, true, true, true, true, false, false] (lc' := [some (.ref (ad G 9 0 0)), some (.ref (ad G 19 0 0)), some (.ref (ad G 20 0 0)), some (.ref (ad G 21 0 0)), some (.ref (ad G 22 0 0)), some (.ref (ad G 24 0 0)), some (.int a6), some (.int r1), some (.int ((11 : Int32) * r1)), some (.int r7), none, none]) rfl ?_
          exact hk10 _ h
      · refine v_icmp_ne C dL_isSold_54 (tgt := 77) (by decide) h (fun h => ?_) (fun h => ?_)
        · refine v_mask [true, true, true, true, true, true, true, true, true, true, false, false] (lc' := [some (.ref (ad G 9 0 0)), some (.ref (ad G 19 0 0)), some (.ref (ad G 20 0 0)), some (.ref (ad G 21 0 0)), some (.ref (ad G 22 0 0)), some (.ref (ad G 24 0 0)), some (.int a6), some (.int r1), some (.int ((11 : Int32) * r1)), some (.int r7), none, none]) rfl ?_
          exact hk21 h
        · refine v_aload_n C dL_isSold_57 rfl rfl ?_
          refine v_iload C dL_isSold_58 rfl ?_
          refine v_bipush C dL_isSold_60 kb_8 ?_
          refine v_iadd C dL_isSold_62 ?_
          refine ld_21 C dL_isSold_63 h (fun h => ?_)
          refine v_if_le C dL_isSold_64 (tgt := 77) (by decide) h (fun h => ?_) (fun h => ?_)
          · refine v_mask [true, true, true, true, true, true, true, true, true, true, false, false] (lc' := [some (.ref (ad G 9 0 0)), some (.ref (ad G 19 0 0)), some (.ref (ad G 20 0 0)), some (.ref (ad G 21 0 0)), some (.ref (ad G 22 0 0)), some (.ref (ad G 24 0 0)), some (.int a6), some (.int r1), some (.int ((11 : Int32) * r1)), some (.int r7), none, none]) rfl ?_
            exact hk21 h
          · refine v_aload_n C dL_isSold_67 rfl rfl ?_
            refine v_iload C dL_isSold_68 rfl ?_
            refine v_bipush C dL_isSold_70 kb_6 ?_
            refine v_iadd C dL_isSold_72 ?_
            refine ld_21 C dL_isSold_73 h (fun h => ?_)
            refine v_if_eq C dL_isSold_74 (tgt := 89) (by decide) h (fun h => ?_) (fun h => ?_)
            · refine v_mask [true, true, true, true, true, true, true, true, true, true, false, false] (lc' := [some (.ref (ad G 9 0 0)), some (.ref (ad G 19 0 0)), some (.ref (ad G 20 0 0)), some (.ref (ad G 21 0 0)), some (.ref (ad G 22 0 0)), some (.ref (ad G 24 0 0)), some (.int a6), some (.int r1), some (.int ((11 : Int32) * r1)), some (.int r7), none, none]) rfl ?_
              exact hk10 _ h
            · refine v_mask [true, true, true, true, true, true, true, true, true, true, false, false] (lc' := [some (.ref (ad G 9 0 0)), some (.ref (ad G 19 0 0)), some (.ref (ad G 20 0 0)), some (.ref (ad G 21 0 0)), some (.ref (ad G 22 0 0)), some (.ref (ad G 24 0 0)), some (.int a6), some (.int r1), some (.int ((11 : Int32) * r1)), some (.int r7), none, none]) rfl ?_
              exact hk21 h
  · refine v_if_ne C dL_isSold_30 (tgt := 39) (by decide) h (fun h => ?_) (fun h => ?_)
    · refine v_sipush C dL_isSold_39 ks_20000 ?_
      refine v_mask [true, true, true, true, true, true, true, true, true, false, false, false] (lc' := [some (.ref (ad G 9 0 0)), some (.ref (ad G 19 0 0)), some (.ref (ad G 20 0 0)), some (.ref (ad G 21 0 0)), some (.ref (ad G 22 0 0)), some (.ref (ad G 24 0 0)), some (.int a6), some (.int r1), some (.int ((11 : Int32) * r1)), none, none, none]) rfl ?_
      exact hk6 _ h
    · refine v_sipush C dL_isSold_33 ks_400 ?_
      refine v_goto C dL_isSold_36 (tgt := 42) (by decide) ?_
      refine v_mask [true, true, true, true, true, true, true, true, true, false, false, false] (lc' := [some (.ref (ad G 9 0 0)), some (.ref (ad G 19 0 0)), some (.ref (ad G 20 0 0)), some (.ref (ad G 21 0 0)), some (.ref (ad G 22 0 0)), some (.ref (ad G 24 0 0)), some (.int a6), some (.int r1), some (.int ((11 : Int32) * r1)), none, none, none]) rfl ?_
      exact hk6 _ h
