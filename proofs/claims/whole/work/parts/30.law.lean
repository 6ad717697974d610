section LAWR
variable {X : Cx} {G : Gm} {mc ms : Nat} {Q : State → Prop} {σ : Sto} {pc : Nat} {lc : List (Option Value)} {st : List Value} {cc : ByteArray} {own : String} {nL d : Nat} {ret : Option FieldType} {b L : Nat} {xs : Nat → Int32}
theorem v_slen (C : Gd X G cc own nL d ret mc ms) (hX : va_X b L xs (cxS X) (cxS X).heap) (hbl : b < (cxS X).heap.size) (hbA : ¬ AG G b) (hd : decode cc pc = .ok (.arraylength, 1)) (kk : V X G mc ms Q σ (pc + 1) lc (.int (Int32.ofNat L) :: st)) : V X G mc ms Q σ pc lc (.ref b :: st) := fun H locs ls hR hS hl => va_slen C.1 C.2.1 hX hbl hbA hS hd (kk H locs ls hR hS hl)
theorem v_sld (C : Gd X G cc own nL d ret mc ms) (hX : va_X b L xs (cxS X) (cxS X).heap) (hbl : b < (cxS X).heap.size) (hbA : ¬ AG G b) {R : Type} {i : Int32} {A : Option R} {res : R} (hd : decode cc pc = .ok (.iaload, 1)) (h : (if inb i L then A else none) = some res) (kk : A = some res → V X G mc ms Q σ (pc + 1) lc (.int (xs i.toNatClampNeg) :: st)) : V X G mc ms Q σ pc lc (.int i :: .ref b :: st) := fun H locs ls hR hS hl => va_sld C.1 C.2.1 hX hbl hbA hS (vp_in_iff.mpr (if_some h).1) hd (kk (if_some h).2 H locs ls hR hS hl)
end LAWR
def dc_law (L : Nat) (xs : Nat → Int32) (σ : Sto) : Option Sto :=
  wh1 (fun (rec1 : Int32 → Sto → Option Sto) (x3 : Int32) (σ2 : Sto) => (if ((Int32.ofNat L) - (5 : Int32)) < x3 then some σ2 else (if inb x3 L then (if ((xs x3.toNatClampNeg) &&& (31 : Int32)) = (0 : Int32) then (if inb (x3 + (1 : Int32)) L then (bd (dc_X9_addInvestor (xs (x3 + (1 : Int32)).toNatClampNeg) σ2) fun r4 σ5 => (if inb (x3 + (1 : Int32)) L then (bd (dc_X10_addInvestor (xs (x3 + (1 : Int32)).toNatClampNeg) σ5) fun r6 σ7 => (if r4 = r6 then rec1 (x3 + 5) σ7 else none)) else none)) else none) else (if ((xs x3.toNatClampNeg) &&& (31 : Int32)) = (1 : Int32) then (if inb (x3 + (1 : Int32)) L then (if inb (x3 + (2 : Int32)) L then (bd (dc_X9_deposit (xs (x3 + (1 : Int32)).toNatClampNeg) (xs (x3 + (2 : Int32)).toNatClampNeg) σ2) fun r9 σ10 => (if inb (x3 + (1 : Int32)) L then (if inb (x3 + (2 : Int32)) L then (bd (dc_X10_deposit (xs (x3 + (1 : Int32)).toNatClampNeg) (xs (x3 + (2 : Int32)).toNatClampNeg) σ10) fun r11 σ12 => (if r9 = r11 then rec1 (x3 + 5) σ12 else none)) else none) else none)) else none) else none) else (if ((xs x3.toNatClampNeg) &&& (31 : Int32)) = (2 : Int32) then (if inb (x3 + (1 : Int32)) L then (bd (dc_X9_setPoolShare (xs (x3 + (1 : Int32)).toNatClampNeg) σ2) fun r14 σ15 => (if inb (x3 + (1 : Int32)) L then (bd (dc_X10_setPoolShare (xs (x3 + (1 : Int32)).toNatClampNeg) σ15) fun r16 σ17 => (if r14 = r16 then rec1 (x3 + 5) σ17 else none)) else none)) else none) else (if ((xs x3.toNatClampNeg) &&& (31 : Int32)) = (3 : Int32) then (if inb (x3 + (1 : Int32)) L then (if inb (x3 + (2 : Int32)) L then (if inb (x3 + (3 : Int32)) L then (bd (dc_X9_openLoan (xs (x3 + (1 : Int32)).toNatClampNeg) (xs (x3 + (2 : Int32)).toNatClampNeg) (xs (x3 + (3 : Int32)).toNatClampNeg) σ2) fun r19 σ20 => (if inb (x3 + (1 : Int32)) L then (if inb (x3 + (2 : Int32)) L then (if inb (x3 + (3 : Int32)) L then (bd (dc_X10_openLoan (xs (x3 + (1 : Int32)).toNatClampNeg) (xs (x3 + (2 : Int32)).toNatClampNeg) (xs (x3 + (3 : Int32)).toNatClampNeg) σ20) fun r21 σ22 => (if r19 = r21 then rec1 (x3 + 5) σ22 else none)) else none) else none) else none)) else none) else none) else none) else (if ((xs x3.toNatClampNeg) &&& (31 : Int32)) = (4 : Int32) then (if inb (x3 + (1 : Int32)) L then (if inb (x3 + (2 : Int32)) L then (if inb (x3 + (3 : Int32)) L then jn (fun (v24 : Int32) => (if inb (x3 + (4 : Int32)) L then (bd (dc_X9_fund (xs (x3 + (1 : Int32)).toNatClampNeg) (xs (x3 + (2 : Int32)).toNatClampNeg) v24 (xs (x3 + (4 : Int32)).toNatClampNeg) σ2) fun r26 σ27 => (if inb (x3 + (1 : Int32)) L then (if inb (x3 + (2 : Int32)) L then (if inb (x3 + (3 : Int32)) L then jn (fun (v28 : Int32) => (if inb (x3 + (4 : Int32)) L then (bd (dc_X10_fund (xs (x3 + (1 : Int32)).toNatClampNeg) (xs (x3 + (2 : Int32)).toNatClampNeg) v28 (xs (x3 + (4 : Int32)).toNatClampNeg) σ27) fun r30 σ31 => (if r26 = r30 then rec1 (x3 + 5) σ31 else none)) else none)) (fun k29 => (if (xs (x3 + (3 : Int32)).toNatClampNeg) = 0 then k29 (0 : Int32) else k29 (1 : Int32))) else none) else none) else none)) else none)) (fun k25 => (if (xs (x3 + (3 : Int32)).toNatClampNeg) = 0 then k25 (0 : Int32) else k25 (1 : Int32))) else none) else none) else none) else (if ((xs x3.toNatClampNeg) &&& (31 : Int32)) = (5 : Int32) then (if inb (x3 + (1 : Int32)) L then (bd (dc_X9_giveUp (xs (x3 + (1 : Int32)).toNatClampNeg) σ2) fun r33 σ34 => (if inb (x3 + (1 : Int32)) L then (bd (dc_X10_giveUp (xs (x3 + (1 : Int32)).toNatClampNeg) σ34) fun r35 σ36 => (if r33 = r35 then rec1 (x3 + 5) σ36 else none)) else none)) else none) else (if ((xs x3.toNatClampNeg) &&& (31 : Int32)) = (6 : Int32) then (if inb (x3 + (1 : Int32)) L then (if inb (x3 + (2 : Int32)) L then (bd (dc_X9_pay (xs (x3 + (1 : Int32)).toNatClampNeg) (xs (x3 + (2 : Int32)).toNatClampNeg) σ2) fun r38 σ39 => (if inb (x3 + (1 : Int32)) L then (if inb (x3 + (2 : Int32)) L then (bd (dc_X10_pay (xs (x3 + (1 : Int32)).toNatClampNeg) (xs (x3 + (2 : Int32)).toNatClampNeg) σ39) fun r40 σ41 => (if r38 = r40 then rec1 (x3 + 5) σ41 else none)) else none) else none)) else none) else none) else (if ((xs x3.toNatClampNeg) &&& (31 : Int32)) = (7 : Int32) then (if inb (x3 + (1 : Int32)) L then (if inb (x3 + (2 : Int32)) L then (bd (dc_X9_cure (xs (x3 + (1 : Int32)).toNatClampNeg) (xs (x3 + (2 : Int32)).toNatClampNeg) σ2) fun r43 σ44 => (if inb (x3 + (1 : Int32)) L then (if inb (x3 + (2 : Int32)) L then (bd (dc_X10_cure (xs (x3 + (1 : Int32)).toNatClampNeg) (xs (x3 + (2 : Int32)).toNatClampNeg) σ44) fun r45 σ46 => (if r43 = r45 then rec1 (x3 + 5) σ46 else none)) else none) else none)) else none) else none) else (if ((xs x3.toNatClampNeg) &&& (31 : Int32)) = (8 : Int32) then (if inb (x3 + (1 : Int32)) L then (if inb (x3 + (2 : Int32)) L then (bd (dc_X9_sell (xs (x3 + (1 : Int32)).toNatClampNeg) (xs (x3 + (2 : Int32)).toNatClampNeg) σ2) fun r48 σ49 => (if inb (x3 + (1 : Int32)) L then (if inb (x3 + (2 : Int32)) L then (bd (dc_X10_sell (xs (x3 + (1 : Int32)).toNatClampNeg) (xs (x3 + (2 : Int32)).toNatClampNeg) σ49) fun r50 σ51 => (if r48 = r50 then rec1 (x3 + 5) σ51 else none)) else none) else none)) else none) else none) else (if ((xs x3.toNatClampNeg) &&& (31 : Int32)) = (9 : Int32) then (if inb (x3 + (1 : Int32)) L then (if inb (x3 + (2 : Int32)) L then (bd (dc_X9_switchServicer (xs (x3 + (1 : Int32)).toNatClampNeg) (xs (x3 + (2 : Int32)).toNatClampNeg) σ2) fun r53 σ54 => (if inb (x3 + (1 : Int32)) L then (if inb (x3 + (2 : Int32)) L then (bd (dc_X10_switchServicer (xs (x3 + (1 : Int32)).toNatClampNeg) (xs (x3 + (2 : Int32)).toNatClampNeg) σ54) fun r55 σ56 => (if r53 = r55 then rec1 (x3 + 5) σ56 else none)) else none) else none)) else none) else none) else (if ((xs x3.toNatClampNeg) &&& (31 : Int32)) = (10 : Int32) then (if inb (x3 + (1 : Int32)) L then (if inb (x3 + (2 : Int32)) L then (if inb (x3 + (3 : Int32)) L then (bd (dc_X9_sellNote (xs (x3 + (1 : Int32)).toNatClampNeg) (xs (x3 + (2 : Int32)).toNatClampNeg) (xs (x3 + (3 : Int32)).toNatClampNeg) σ2) fun r58 σ59 => (if inb (x3 + (1 : Int32)) L then (if inb (x3 + (2 : Int32)) L then (if inb (x3 + (3 : Int32)) L then (bd (dc_X10_sellNote (xs (x3 + (1 : Int32)).toNatClampNeg) (xs (x3 + (2 : Int32)).toNatClampNeg) (xs (x3 + (3 : Int32)).toNatClampNeg) σ59) fun r60 σ61 => (if r58 = r60 then rec1 (x3 + 5) σ61 else none)) else none) else none) else none)) else none) else none) else none) else (if ((xs x3.toNatClampNeg) &&& (31 : Int32)) = (11 : Int32) then (if inb (x3 + (1 : Int32)) L then (bd (dc_X9_pass (xs (x3 + (1 : Int32)).toNatClampNeg) σ2) fun r63 σ64 => (if inb (x3 + (1 : Int32)) L then (bd (dc_X10_pass (xs (x3 + (1 : Int32)).toNatClampNeg) σ64) fun r65 σ66 => (if r63 = r65 then rec1 (x3 + 5) σ66 else none)) else none)) else none) else (if ((xs x3.toNatClampNeg) &&& (31 : Int32)) = (12 : Int32) then (if inb (x3 + (1 : Int32)) L then (bd (dc_X9_type (((xs (x3 + (1 : Int32)).toNatClampNeg).toUInt32 % 65536).toInt32) σ2) fun r68 σ69 => (if inb (x3 + (1 : Int32)) L then (bd (dc_X10_type (((xs (x3 + (1 : Int32)).toNatClampNeg).toUInt32 % 65536).toInt32) σ69) fun r70 σ71 => (if r68 = r70 then rec1 (x3 + 5) σ71 else none)) else none)) else none) else (if ((xs x3.toNatClampNeg) &&& (31 : Int32)) = (13 : Int32) then (bd (dc_X9_clearText  σ2) fun r73 σ74 => (bd (dc_X10_clearText  σ74) fun r75 σ76 => (if r73 = r75 then rec1 (x3 + 5) σ76 else none))) else (if ((xs x3.toNatClampNeg) &&& (31 : Int32)) = (14 : Int32) then (bd (dc_X9_readFundings  σ2) fun r78 σ79 => (bd (dc_X10_readFundings  σ79) fun r80 σ81 => (if r78 = r80 then rec1 (x3 + 5) σ81 else none))) else (if ((xs x3.toNatClampNeg) &&& (31 : Int32)) = (15 : Int32) then (bd (dc_X9_undo  σ2) fun r83 σ84 => (bd (dc_X10_undo  σ84) fun r85 σ86 => (if r83 = r85 then rec1 (x3 + 5) σ86 else none))) else (if ((xs x3.toNatClampNeg) &&& (31 : Int32)) = (16 : Int32) then (bd (dc_X9_keep  σ2) fun r88 σ89 => (bd (dc_X10_keep  σ89) fun r90 σ91 => (if r88 = r90 then rec1 (x3 + 5) σ91 else none))) else (if ((xs x3.toNatClampNeg) &&& (31 : Int32)) = (17 : Int32) then (bd (dc_X9_restore  σ2) fun r93 σ94 => (bd (dc_X10_restore  σ94) fun r95 σ96 => (if r93 = r95 then rec1 (x3 + 5) σ96 else none))) else (if ((xs x3.toNatClampNeg) &&& (31 : Int32)) = (18 : Int32) then (if inb (x3 + (1 : Int32)) L then (if inb (x3 + (2 : Int32)) L then (bd (dc_X9_investor (xs (x3 + (1 : Int32)).toNatClampNeg) (xs (x3 + (2 : Int32)).toNatClampNeg) σ2) fun r98 σ99 => (if inb (x3 + (1 : Int32)) L then (if inb (x3 + (2 : Int32)) L then (bd (dc_X10_investor (xs (x3 + (1 : Int32)).toNatClampNeg) (xs (x3 + (2 : Int32)).toNatClampNeg) σ99) fun r100 σ101 => (if r98 = r100 then rec1 (x3 + 5) σ101 else none)) else none) else none)) else none) else none) else (if ((xs x3.toNatClampNeg) &&& (31 : Int32)) = (19 : Int32) then (if inb (x3 + (1 : Int32)) L then (if inb (x3 + (2 : Int32)) L then (bd (dc_X9_loan (xs (x3 + (1 : Int32)).toNatClampNeg) (xs (x3 + (2 : Int32)).toNatClampNeg) σ2) fun r103 σ104 => (if inb (x3 + (1 : Int32)) L then (if inb (x3 + (2 : Int32)) L then (bd (dc_X10_loan (xs (x3 + (1 : Int32)).toNatClampNeg) (xs (x3 + (2 : Int32)).toNatClampNeg) σ104) fun r105 σ106 => (if r103 = r105 then rec1 (x3 + 5) σ106 else none)) else none) else none)) else none) else none) else (if ((xs x3.toNatClampNeg) &&& (31 : Int32)) = (20 : Int32) then (if inb (x3 + (1 : Int32)) L then (if inb (x3 + (2 : Int32)) L then (bd (dc_X9_note (xs (x3 + (1 : Int32)).toNatClampNeg) (xs (x3 + (2 : Int32)).toNatClampNeg) σ2) fun r108 σ109 => (if inb (x3 + (1 : Int32)) L then (if inb (x3 + (2 : Int32)) L then (bd (dc_X10_note (xs (x3 + (1 : Int32)).toNatClampNeg) (xs (x3 + (2 : Int32)).toNatClampNeg) σ109) fun r110 σ111 => (if r108 = r110 then rec1 (x3 + 5) σ111 else none)) else none) else none)) else none) else none) else (if ((xs x3.toNatClampNeg) &&& (31 : Int32)) = (21 : Int32) then (if inb (x3 + (1 : Int32)) L then (if inb (x3 + (2 : Int32)) L then (if inb (x3 + (3 : Int32)) L then (bd (dc_X9_split (xs (x3 + (1 : Int32)).toNatClampNeg) (xs (x3 + (2 : Int32)).toNatClampNeg) (xs (x3 + (3 : Int32)).toNatClampNeg) σ2) fun r113 σ114 => (if inb (x3 + (1 : Int32)) L then (if inb (x3 + (2 : Int32)) L then (if inb (x3 + (3 : Int32)) L then (bd (dc_X10_split (xs (x3 + (1 : Int32)).toNatClampNeg) (xs (x3 + (2 : Int32)).toNatClampNeg) (xs (x3 + (3 : Int32)).toNatClampNeg) σ114) fun r115 σ116 => (if r113 = r115 then rec1 (x3 + 5) σ116 else none)) else none) else none) else none)) else none) else none) else none) else (if ((xs x3.toNatClampNeg) &&& (31 : Int32)) = (22 : Int32) then (if inb (x3 + (1 : Int32)) L then (bd (dc_X9_toRepay (xs (x3 + (1 : Int32)).toNatClampNeg) σ2) fun r118 σ119 => (if inb (x3 + (1 : Int32)) L then (bd (dc_X10_toRepay (xs (x3 + (1 : Int32)).toNatClampNeg) σ119) fun r120 σ121 => (if r118 = r120 then rec1 (x3 + 5) σ121 else none)) else none)) else none) else (if ((xs x3.toNatClampNeg) &&& (31 : Int32)) = (23 : Int32) then (if inb (x3 + (1 : Int32)) L then (if inb (x3 + (2 : Int32)) L then (bd (dc_X9_servicer (xs (x3 + (1 : Int32)).toNatClampNeg) (xs (x3 + (2 : Int32)).toNatClampNeg) σ2) fun r123 σ124 => (if inb (x3 + (1 : Int32)) L then (if inb (x3 + (2 : Int32)) L then (bd (dc_X10_servicer (xs (x3 + (1 : Int32)).toNatClampNeg) (xs (x3 + (2 : Int32)).toNatClampNeg) σ124) fun r125 σ126 => (if r123 = r125 then rec1 (x3 + 5) σ126 else none)) else none) else none)) else none) else none) else (if ((xs x3.toNatClampNeg) &&& (31 : Int32)) = (24 : Int32) then (if inb (x3 + (1 : Int32)) L then (bd (dc_X9_count (xs (x3 + (1 : Int32)).toNatClampNeg) σ2) fun r128 σ129 => (if inb (x3 + (1 : Int32)) L then (bd (dc_X10_count (xs (x3 + (1 : Int32)).toNatClampNeg) σ129) fun r130 σ131 => (if r128 = r130 then rec1 (x3 + 5) σ131 else none)) else none)) else none) else rec1 (x3 + 5) σ2))))))))))))))))))))))))) else none))) FU (0 : Int32) σ
set_option maxRecDepth 20000 in
set_option maxHeartbeats 40000000 in
theorem s_law {X : Cx} {G : Gm} {mc ms : Nat} {Q : State → Prop} {b L : Nat} {xs : Nat → Int32} (C : Gd X G cL_law RL 4 7 (some .boolean) mc ms) (hX : va_X b L xs (cxS X) (cxS X).heap) (hbl : b < (cxS X).heap.size) (hbA : ¬ AG G b) (hend : ∀ (τ : Sto) (lc : List (Option Value)), V X G mc ms Q τ 878 lc [.int 1]) {σ τ : Sto} (h : dc_law L xs σ = some τ) : V X G mc ms Q σ 16 [some (.ref b), some (.ref (ad G 9 0 0)), some (.ref (ad G 10 0 0)), none] [] := by
  unfold dc_law at h
  refine v_iconst C dL_law_16 ki_0 ?_
  refine v_istore_n C dL_law_17 rfl (Nat.le_of_ble_eq_true rfl) (lc1 := [some (.ref b), some (.ref (ad G 9 0 0)), some (.ref (ad G 10 0 0)), some (.int (0 : Int32))]) rfl ?_
  refine v_loop1 (fun x3 σ2 => V X G mc ms Q σ2 18 [some (.ref b), some (.ref (ad G 9 0 0)), some (.ref (ad G 10 0 0)), some (.int x3)] []) (fun rec1 hrec1 x3 σ2 h => ?_) h
  refine v_iload_n C dL_law_18 rfl rfl ?_
  refine v_aload_n C dL_law_19 rfl rfl ?_
  refine v_slen C hX hbl hbA dL_law_20 ?_
  refine v_iconst C dL_law_21 ki_5 ?_
  refine v_isub C dL_law_22 ?_
  refine v_icmp_gt C dL_law_23 (tgt := 877) (by decide) h (fun h => ?_) (fun h => ?_)
  · refine v_iconst C dL_law_877 ki_1 ?_
    exact hend _ _
  · refine v_aload_n C dL_law_26 rfl rfl ?_
    refine v_iload_n C dL_law_27 rfl rfl ?_
    refine v_sld C hX hbl hbA dL_law_28 h (fun h => ?_)
    refine v_bipush C dL_law_29 kb_31 ?_
    refine v_iand C dL_law_31 ?_
    refine v_tcase h (fun hc8 h => ?_) (fun hc8 h => ?_)
    · refine v_tin C dL_law_32 (tgt := 148) (by rw [hc8]; decide) (by rw [hc8]; decide) (by rw [hc8]; exact rfl) (by decide) ?_
      refine v_aload_n C dL_law_148 rfl rfl ?_
      refine v_aload_n C dL_law_149 rfl rfl ?_
      refine v_iload_n C dL_law_150 rfl rfl ?_
      refine v_iconst C dL_law_151 ki_1 ?_
      refine v_iadd C dL_law_152 ?_
      refine v_sld C hX hbl hbA dL_law_153 h (fun h => ?_)
      refine cVi C 9 0 0 (av := [.int (xs (x3 + (1 : Int32)).toNatClampNeg)]) si_X9_addInvestor lk_L_13 (ok9) rfl rfl rfl rfl (st := []) rfl (Nat.le_of_ble_eq_true rfl) dL_law_154 h (fun _ _ hc => s_X9_addInvestor (d := 3) (xs (x3 + (1 : Int32)).toNatClampNeg)  hc) (fun r4 σ5 h => ?_)
      refine v_aload_n C dL_law_157 rfl rfl ?_
      refine v_aload_n C dL_law_158 rfl rfl ?_
      refine v_iload_n C dL_law_159 rfl rfl ?_
      refine v_iconst C dL_law_160 ki_1 ?_
      refine v_iadd C dL_law_161 ?_
      refine v_sld C hX hbl hbA dL_law_162 h (fun h => ?_)
      refine cVi C 10 0 0 (av := [.int (xs (x3 + (1 : Int32)).toNatClampNeg)]) si_X10_addInvestor lk_L_17 (ok10) rfl rfl rfl rfl (st := [.int r4]) rfl (Nat.le_of_ble_eq_true rfl) dL_law_163 h (fun _ _ hc => s_X10_addInvestor (d := 4) (xs (x3 + (1 : Int32)).toNatClampNeg)  hc) (fun r6 σ7 h => ?_)
      refine v_icmp_eq C dL_law_166 (tgt := 871) (by decide) h (fun h => ?_) (fun h => ?_)
      · refine v_iinc C dL_law_871 rfl (kc_5 _) (lc1 := [some (.ref b), some (.ref (ad G 9 0 0)), some (.ref (ad G 10 0 0)), some (.int (x3 + 5))]) rfl ?_
        refine v_goto C dL_law_874 (tgt := 18) (by decide) ?_
        refine v_mask [true, true, true, true] (lc' := [some (.ref b), some (.ref (ad G 9 0 0)), some (.ref (ad G 10 0 0)), some (.int (x3 + 5))]) rfl ?_
        exact hrec1 _ _ h
      · cases h
    refine v_tcase h (fun hc13 h => ?_) (fun hc13 h => ?_)
    · refine v_tin C dL_law_32 (tgt := 171) (by rw [hc13]; decide) (by rw [hc13]; decide) (by rw [hc13]; exact rfl) (by decide) ?_
      refine v_aload_n C dL_law_171 rfl rfl ?_
      refine v_aload_n C dL_law_172 rfl rfl ?_
      refine v_iload_n C dL_law_173 rfl rfl ?_
      refine v_iconst C dL_law_174 ki_1 ?_
      refine v_iadd C dL_law_175 ?_
      refine v_sld C hX hbl hbA dL_law_176 h (fun h => ?_)
      refine v_aload_n C dL_law_177 rfl rfl ?_
      refine v_iload_n C dL_law_178 rfl rfl ?_
      refine v_iconst C dL_law_179 ki_2 ?_
      refine v_iadd C dL_law_180 ?_
      refine v_sld C hX hbl hbA dL_law_181 h (fun h => ?_)
      refine cVi C 9 0 0 (av := [.int (xs (x3 + (1 : Int32)).toNatClampNeg), .int (xs (x3 + (2 : Int32)).toNatClampNeg)]) si_X9_deposit lk_L_18 (ok9) rfl rfl rfl rfl (st := []) rfl (Nat.le_of_ble_eq_true rfl) dL_law_182 h (fun _ _ hc => s_X9_deposit (d := 3) (xs (x3 + (1 : Int32)).toNatClampNeg) (xs (x3 + (2 : Int32)).toNatClampNeg)  hc) (fun r9 σ10 h => ?_)
      refine v_aload_n C dL_law_185 rfl rfl ?_
      refine v_aload_n C dL_law_186 rfl rfl ?_
      refine v_iload_n C dL_law_187 rfl rfl ?_
      refine v_iconst C dL_law_188 ki_1 ?_
      refine v_iadd C dL_law_189 ?_
      refine v_sld C hX hbl hbA dL_law_190 h (fun h => ?_)
      refine v_aload_n C dL_law_191 rfl rfl ?_
      refine v_iload_n C dL_law_192 rfl rfl ?_
      refine v_iconst C dL_law_193 ki_2 ?_
      refine v_iadd C dL_law_194 ?_
      refine v_sld C hX hbl hbA dL_law_195 h (fun h => ?_)
      refine cVi C 10 0 0 (av := [.int (xs (x3 + (1 : Int32)).toNatClampNeg), .int (xs (x3 + (2 : Int32)).toNatClampNeg)]) si_X10_deposit lk_L_22 (ok10) rfl rfl rfl rfl (st := [.int r9]) rfl (Nat.le_of_ble_eq_true rfl) dL_law_196 h (fun _ _ hc => s_X10_deposit (d := 4) (xs (x3 + (1 : Int32)).toNatClampNeg) (xs (x3 + (2 : Int32)).toNatClampNeg)  hc) (fun r11 σ12 h => ?_)
      refine v_icmp_eq C dL_law_199 (tgt := 871) (by decide) h (fun h => ?_) (fun h => ?_)
      · refine v_iinc C dL_law_871 rfl (kc_5 _) (lc1 := [some (.ref b), some (.ref (ad G 9 0 0)), some (.ref (ad G 10 0 0)), some (.int (x3 + 5))]) rfl ?_
        refine v_goto C dL_law_874 (tgt := 18) (by decide) ?_
        refine v_mask [true, true, true, true] (lc' := [some (.ref b), some (.ref (ad G 9 0 0)), some (.ref (ad G 10 0 0)), some (.int (x3 + 5))]) rfl ?_
        exact hrec1 _ _ h
      · cases h
    refine v_tcase h (fun hc18 h => ?_) (fun hc18 h => ?_)
    · refine v_tin C dL_law_32 (tgt := 204) (by rw [hc18]; decide) (by rw [hc18]; decide) (by rw [hc18]; exact rfl) (by decide) ?_
      refine v_aload_n C dL_law_204 rfl rfl ?_
      refine v_aload_n C dL_law_205 rfl rfl ?_
      refine v_iload_n C dL_law_206 rfl rfl ?_
      refine v_iconst C dL_law_207 ki_1 ?_
      refine v_iadd C dL_law_208 ?_
      refine v_sld C hX hbl hbA dL_law_209 h (fun h => ?_)
      refine cVi C 9 0 0 (av := [.int (xs (x3 + (1 : Int32)).toNatClampNeg)]) si_X9_setPoolShare lk_L_23 (ok9) rfl rfl rfl rfl (st := []) rfl (Nat.le_of_ble_eq_true rfl) dL_law_210 h (fun _ _ hc => s_X9_setPoolShare (d := 3) (xs (x3 + (1 : Int32)).toNatClampNeg)  hc) (fun r14 σ15 h => ?_)
      refine v_aload_n C dL_law_213 rfl rfl ?_
      refine v_aload_n C dL_law_214 rfl rfl ?_
      refine v_iload_n C dL_law_215 rfl rfl ?_
      refine v_iconst C dL_law_216 ki_1 ?_
      refine v_iadd C dL_law_217 ?_
      refine v_sld C hX hbl hbA dL_law_218 h (fun h => ?_)
      refine cVi C 10 0 0 (av := [.int (xs (x3 + (1 : Int32)).toNatClampNeg)]) si_X10_setPoolShare lk_L_26 (ok10) rfl rfl rfl rfl (st := [.int r14]) rfl (Nat.le_of_ble_eq_true rfl) dL_law_219 h (fun _ _ hc => s_X10_setPoolShare (d := 4) (xs (x3 + (1 : Int32)).toNatClampNeg)  hc) (fun r16 σ17 h => ?_)
      refine v_icmp_eq C dL_law_222 (tgt := 871) (by decide) h (fun h => ?_) (fun h => ?_)
      · refine v_iinc C dL_law_871 rfl (kc_5 _) (lc1 := [some (.ref b), some (.ref (ad G 9 0 0)), some (.ref (ad G 10 0 0)), some (.int (x3 + 5))]) rfl ?_
        refine v_goto C dL_law_874 (tgt := 18) (by decide) ?_
        refine v_mask [true, true, true, true] (lc' := [some (.ref b), some (.ref (ad G 9 0 0)), some (.ref (ad G 10 0 0)), some (.int (x3 + 5))]) rfl ?_
        exact hrec1 _ _ h
      · cases h
    refine v_tcase h (fun hc23 h => ?_) (fun hc23 h => ?_)
    · refine v_tin C dL_law_32 (tgt := 227) (by rw [hc23]; decide) (by rw [hc23]; decide) (by rw [hc23]; exact rfl) (by decide) ?_
      refine v_aload_n C dL_law_227 rfl rfl ?_
      refine v_aload_n C dL_law_228 rfl rfl ?_
      refine v_iload_n C dL_law_229 rfl rfl ?_
      refine v_iconst C dL_law_230 ki_1 ?_
      refine v_iadd C dL_law_231 ?_
      refine v_sld C hX hbl hbA dL_law_232 h (fun h => ?_)
      refine v_aload_n C dL_law_233 rfl rfl ?_
      refine v_iload_n C dL_law_234 rfl rfl ?_
      refine v_iconst C dL_law_235 ki_2 ?_
      refine v_iadd C dL_law_236 ?_
      refine v_sld C hX hbl hbA dL_law_237 h (fun h => ?_)
      refine v_aload_n C dL_law_238 rfl rfl ?_
      refine v_iload_n C dL_law_239 rfl rfl ?_
      refine v_iconst C dL_law_240 ki_3 ?_
      refine v_iadd C dL_law_241 ?_
      refine v_sld C hX hbl hbA dL_law_242 h (fun h => ?_)
      refine cVi C 9 0 0 (av := [.int (xs (x3 + (1 : Int32)).toNatClampNeg), .int (xs (x3 + (2 : Int32)).toNatClampNeg), .int (xs (x3 + (3 : Int32)).toNatClampNeg)]) si_X9_openLoan lk_L_27 (ok9) rfl rfl rfl rfl (st := []) rfl (Nat.le_of_ble_eq_true rfl) dL_law_243 h (fun _ _ hc => s_X9_openLoan (d := 3) (xs (x3 + (1 : Int32)).toNatClampNeg) (xs (x3 + (2 : Int32)).toNatClampNeg) (xs (x3 + (3 : Int32)).toNatClampNeg)  hc) (fun r19 σ20 h => ?_)
      refine v_aload_n C dL_law_246 rfl rfl ?_
      refine v_aload_n C dL_law_247 rfl rfl ?_
      refine v_iload_n C dL_law_248 rfl rfl ?_
      refine v_iconst C dL_law_249 ki_1 ?_
      refine v_iadd C dL_law_250 ?_
      refine v_sld C hX hbl hbA dL_law_251 h (fun h => ?_)
      refine v_aload_n C dL_law_252 rfl rfl ?_
      refine v_iload_n C dL_law_253 rfl rfl ?_
      refine v_iconst C dL_law_254 ki_2 ?_
      refine v_iadd C dL_law_255 ?_
      refine v_sld C hX hbl hbA dL_law_256 h (fun h => ?_)
      refine v_aload_n C dL_law_257 rfl rfl ?_
      refine v_iload_n C dL_law_258 rfl rfl ?_
      refine v_iconst C dL_law_259 ki_3 ?_
      refine v_iadd C dL_law_260 ?_
      refine v_sld C hX hbl hbA dL_law_261 h (fun h => ?_)
      refine cVi C 10 0 0 (av := [.int (xs (x3 + (1 : Int32)).toNatClampNeg), .int (xs (x3 + (2 : Int32)).toNatClampNeg), .int (xs (x3 + (3 : Int32)).toNatClampNeg)]) si_X10_openLoan lk_L_31 (ok10) rfl rfl rfl rfl (st := [.int r19]) rfl (Nat.le_of_ble_eq_true rfl) dL_law_262 h (fun _ _ hc => s_X10_openLoan (d := 4) (xs (x3 + (1 : Int32)).toNatClampNeg) (xs (x3 + (2 : Int32)).toNatClampNeg) (xs (x3 + (3 : Int32)).toNatClampNeg)  hc) (fun r21 σ22 h => ?_)
      refine v_icmp_eq C dL_law_265 (tgt := 871) (by decide) h (fun h => ?_) (fun h => ?_)
      · refine v_iinc C dL_law_871 rfl (kc_5 _) (lc1 := [some (.ref b), some (.ref (ad G 9 0 0)), some (.ref (ad G 10 0 0)), some (.int (x3 + 5))]) rfl ?_
        refine v_goto C dL_law_874 (tgt := 18) (by decide) ?_
        refine v_mask [true, true, true, true] (lc' := [some (.ref b), some (.ref (ad G 9 0 0)), some (.ref (ad G 10 0 0)), some (.int (x3 + 5))]) rfl ?_
        exact hrec1 _ _ h
      · cases h
    refine v_tcase h (fun hc32 h => ?_) (fun hc32 h => ?_)
    · refine v_tin C dL_law_32 (tgt := 270) (by rw [hc32]; decide) (by rw [hc32]; decide) (by rw [hc32]; exact rfl) (by decide) ?_
      refine v_aload_n C dL_law_270 rfl rfl ?_
      refine v_aload_n C dL_law_271 rfl rfl ?_
      refine v_iload_n C dL_law_272 rfl rfl ?_
      refine v_iconst C dL_law_273 ki_1 ?_
      refine v_iadd C dL_law_274 ?_
      refine v_sld C hX hbl hbA dL_law_275 h (fun h => ?_)
      refine v_aload_n C dL_law_276 rfl rfl ?_
      refine v_iload_n C dL_law_277 rfl rfl ?_
      refine v_iconst C dL_law_278 ki_2 ?_
      refine v_iadd C dL_law_279 ?_
      refine v_sld C hX hbl hbA dL_law_280 h (fun h => ?_)
      refine v_aload_n C dL_law_281 rfl rfl ?_
      refine v_iload_n C dL_law_282 rfl rfl ?_
      refine v_iconst C dL_law_283 ki_3 ?_
      refine v_iadd C dL_law_284 ?_
      refine v_sld C hX hbl hbA dL_law_285 h (fun h => ?_)
      refine v_join (fun k => ∀ (v24 : Int32), k v24 = some τ → V X G mc ms Q σ2 294 [some (.ref b), some (.ref (ad G 9 0 0)), some (.ref (ad G 10 0 0)), some (.int x3)] [.int v24, .int (xs (x3 + (2 : Int32)).toNatClampNeg), .int (xs (x3 + (1 : Int32)).toNatClampNeg), .ref (ad G 9 0 0)]) h (fun v24 h => ?_) (fun k25 hk25 h => ?_)
      · refine v_aload_n C dL_law_294 rfl rfl ?_
        refine v_iload_n C dL_law_295 rfl rfl ?_
        refine v_iconst C dL_law_296 ki_4 ?_
        refine v_iadd C dL_law_297 ?_
        refine v_sld C hX hbl hbA dL_law_298 h (fun h => ?_)
        refine cVi C 9 0 0 (av := [.int (xs (x3 + (1 : Int32)).toNatClampNeg), .int (xs (x3 + (2 : Int32)).toNatClampNeg), .int v24, .int (xs (x3 + (4 : Int32)).toNatClampNeg)]) si_X9_fund lk_L_32 (ok9) rfl rfl rfl rfl (st := []) rfl (Nat.le_of_ble_eq_true rfl) dL_law_299 h (fun _ _ hc => s_X9_fund (d := 2) (xs (x3 + (1 : Int32)).toNatClampNeg) (xs (x3 + (2 : Int32)).toNatClampNeg) v24 (xs (x3 + (4 : Int32)).toNatClampNeg)  hc) (fun r26 σ27 h => ?_)
        refine v_aload_n C dL_law_302 rfl rfl ?_
        refine v_aload_n C dL_law_303 rfl rfl ?_
        refine v_iload_n C dL_law_304 rfl rfl ?_
        refine v_iconst C dL_law_305 ki_1 ?_
        refine v_iadd C dL_law_306 ?_
        refine v_sld C hX hbl hbA dL_law_307 h (fun h => ?_)
        refine v_aload_n C dL_law_308 rfl rfl ?_
        refine v_iload_n C dL_law_309 rfl rfl ?_
        refine v_iconst C dL_law_310 ki_2 ?_
        refine v_iadd C dL_law_311 ?_
        refine v_sld C hX hbl hbA dL_law_312 h (fun h => ?_)
        refine v_aload_n C dL_law_313 rfl rfl ?_
        refine v_iload_n C dL_law_314 rfl rfl ?_
        refine v_iconst C dL_law_315 ki_3 ?_
        refine v_iadd C dL_law_316 ?_
        refine v_sld C hX hbl hbA dL_law_317 h (fun h => ?_)
        refine v_join (fun k => ∀ (v28 : Int32), k v28 = some τ → V X G mc ms Q σ27 326 [some (.ref b), some (.ref (ad G 9 0 0)), some (.ref (ad G 10 0 0)), some (.int x3)] [.int v28, .int (xs (x3 + (2 : Int32)).toNatClampNeg), .int (xs (x3 + (1 : Int32)).toNatClampNeg), .ref (ad G 10 0 0), .int r26]) h (fun v28 h => ?_) (fun k29 hk29 h => ?_)
        · refine v_aload_n C dL_law_326 rfl rfl ?_
          refine v_iload_n C dL_law_327 rfl rfl ?_
          refine v_iconst C dL_law_328 ki_4 ?_
          refine v_iadd C dL_law_329 ?_
          refine v_sld C hX hbl hbA dL_law_330 h (fun h => ?_)
          refine cVi C 10 0 0 (av := [.int (xs (x3 + (1 : Int32)).toNatClampNeg), .int (xs (x3 + (2 : Int32)).toNatClampNeg), .int v28, .int (xs (x3 + (4 : Int32)).toNatClampNeg)]) si_X10_fund lk_L_36 (ok10) rfl rfl rfl rfl (st := [.int r26]) rfl (Nat.le_of_ble_eq_true rfl) dL_law_331 h (fun _ _ hc => s_X10_fund (d := 2) (xs (x3 + (1 : Int32)).toNatClampNeg) (xs (x3 + (2 : Int32)).toNatClampNeg) v28 (xs (x3 + (4 : Int32)).toNatClampNeg)  hc) (fun r30 σ31 h => ?_)
          refine v_icmp_eq C dL_law_334 (tgt := 871) (by decide) h (fun h => ?_) (fun h => ?_)
          · refine v_iinc C dL_law_871 rfl (kc_5 _) (lc1 := [some (.ref b), some (.ref (ad G 9 0 0)), some (.ref (ad G 10 0 0)), some (.int (x3 + 5))]) rfl ?_
            refine v_goto C dL_law_874 (tgt := 18) (by decide) ?_
            refine v_mask [true, true, true, true] (lc' := [some (.ref b), some (.ref (ad G 9 0 0)), some (.ref (ad G 10 0 0)), some (.int (x3 + 5))]) rfl ?_
            exact hrec1 _ _ h
          · cases h
        · refine v_if_eq C dL_law_318 (tgt := 325) (by decide) h (fun h => ?_) (fun h => ?_)
          · refine v_iconst C dL_law_325 ki_0 ?_
            refine v_mask [true, true, true, true] (lc' := [some (.ref b), some (.ref (ad G 9 0 0)), some (.ref (ad G 10 0 0)), some (.int x3)]) rfl ?_
            exact hk29 _ h
          · refine v_iconst C dL_law_321 ki_1 ?_
            refine v_goto C dL_law_322 (tgt := 326) (by decide) ?_
            refine v_mask [true, true, true, true] (lc' := [some (.ref b), some (.ref (ad G 9 0 0)), some (.ref (ad G 10 0 0)), some (.int x3)]) rfl ?_
            exact hk29 _ h
      · refine v_if_eq C dL_law_286 (tgt := 293) (by decide) h (fun h => ?_) (fun h => ?_)
        · refine v_iconst C dL_law_293 ki_0 ?_
          refine v_mask [true, true, true, true] (lc' := [some (.ref b), some (.ref (ad G 9 0 0)), some (.ref (ad G 10 0 0)), some (.int x3)]) rfl ?_
          exact hk25 _ h
        · refine v_iconst C dL_law_289 ki_1 ?_
          refine v_goto C dL_law_290 (tgt := 294) (by decide) ?_
          refine v_mask [true, true, true, true] (lc' := [some (.ref b), some (.ref (ad G 9 0 0)), some (.ref (ad G 10 0 0)), some (.int x3)]) rfl ?_
          exact hk25 _ h
    refine v_tcase h (fun hc37 h => ?_) (fun hc37 h => ?_)
    · refine v_tin C dL_law_32 (tgt := 339) (by rw [hc37]; decide) (by rw [hc37]; decide) (by rw [hc37]; exact rfl) (by decide) ?_
      refine v_aload_n C dL_law_339 rfl rfl ?_
      refine v_aload_n C dL_law_340 rfl rfl ?_
      refine v_iload_n C dL_law_341 rfl rfl ?_
      refine v_iconst C dL_law_342 ki_1 ?_
      refine v_iadd C dL_law_343 ?_
      refine v_sld C hX hbl hbA dL_law_344 h (fun h => ?_)
      refine cVi C 9 0 0 (av := [.int (xs (x3 + (1 : Int32)).toNatClampNeg)]) si_X9_giveUp lk_L_37 (ok9) rfl rfl rfl rfl (st := []) rfl (Nat.le_of_ble_eq_true rfl) dL_law_345 h (fun _ _ hc => s_X9_giveUp (d := 3) (xs (x3 + (1 : Int32)).toNatClampNeg)  hc) (fun r33 σ34 h => ?_)
      refine v_aload_n C dL_law_348 rfl rfl ?_
      refine v_aload_n C dL_law_349 rfl rfl ?_
      refine v_iload_n C dL_law_350 rfl rfl ?_
      refine v_iconst C dL_law_351 ki_1 ?_
      refine v_iadd C dL_law_352 ?_
      refine v_sld C hX hbl hbA dL_law_353 h (fun h => ?_)
      refine cVi C 10 0 0 (av := [.int (xs (x3 + (1 : Int32)).toNatClampNeg)]) si_X10_giveUp lk_L_40 (ok10) rfl rfl rfl rfl (st := [.int r33]) rfl (Nat.le_of_ble_eq_true rfl) dL_law_354 h (fun _ _ hc => s_X10_giveUp (d := 4) (xs (x3 + (1 : Int32)).toNatClampNeg)  hc) (fun r35 σ36 h => ?_)
      refine v_icmp_eq C dL_law_357 (tgt := 871) (by decide) h (fun h => ?_) (fun h => ?_)
      · refine v_iinc C dL_law_871 rfl (kc_5 _) (lc1 := [some (.ref b), some (.ref (ad G 9 0 0)), some (.ref (ad G 10 0 0)), some (.int (x3 + 5))]) rfl ?_
        refine v_goto C dL_law_874 (tgt := 18) (by decide) ?_
        refine v_mask [true, true, true, true] (lc' := [some (.ref b), some (.ref (ad G 9 0 0)), some (.ref (ad G 10 0 0)), some (.int (x3 + 5))]) rfl ?_
        exact hrec1 _ _ h
      · cases h
    refine v_tcase h (fun hc42 h => ?_) (fun hc42 h => ?_)
    · refine v_tin C dL_law_32 (tgt := 362) (by rw [hc42]; decide) (by rw [hc42]; decide) (by rw [hc42]; exact rfl) (by decide) ?_
      refine v_aload_n C dL_law_362 rfl rfl ?_
      refine v_aload_n C dL_law_363 rfl rfl ?_
      refine v_iload_n C dL_law_364 rfl rfl ?_
      refine v_iconst C dL_law_365 ki_1 ?_
      refine v_iadd C dL_law_366 ?_
      refine v_sld C hX hbl hbA dL_law_367 h (fun h => ?_)
      refine v_aload_n C dL_law_368 rfl rfl ?_
      refine v_iload_n C dL_law_369 rfl rfl ?_
      refine v_iconst C dL_law_370 ki_2 ?_
      refine v_iadd C dL_law_371 ?_
      refine v_sld C hX hbl hbA dL_law_372 h (fun h => ?_)
      refine cVi C 9 0 0 (av := [.int (xs (x3 + (1 : Int32)).toNatClampNeg), .int (xs (x3 + (2 : Int32)).toNatClampNeg)]) si_X9_pay lk_L_41 (ok9) rfl rfl rfl rfl (st := []) rfl (Nat.le_of_ble_eq_true rfl) dL_law_373 h (fun _ _ hc => s_X9_pay (d := 3) (xs (x3 + (1 : Int32)).toNatClampNeg) (xs (x3 + (2 : Int32)).toNatClampNeg)  hc) (fun r38 σ39 h => ?_)
      refine v_aload_n C dL_law_376 rfl rfl ?_
      refine v_aload_n C dL_law_377 rfl rfl ?_
      refine v_iload_n C dL_law_378 rfl rfl ?_
      refine v_iconst C dL_law_379 ki_1 ?_
      refine v_iadd C dL_law_380 ?_
      refine v_sld C hX hbl hbA dL_law_381 h (fun h => ?_)
      refine v_aload_n C dL_law_382 rfl rfl ?_
      refine v_iload_n C dL_law_383 rfl rfl ?_
      refine v_iconst C dL_law_384 ki_2 ?_
      refine v_iadd C dL_law_385 ?_
      refine v_sld C hX hbl hbA dL_law_386 h (fun h => ?_)
      refine cVi C 10 0 0 (av := [.int (xs (x3 + (1 : Int32)).toNatClampNeg), .int (xs (x3 + (2 : Int32)).toNatClampNeg)]) si_X10_pay lk_L_44 (ok10) rfl rfl rfl rfl (st := [.int r38]) rfl (Nat.le_of_ble_eq_true rfl) dL_law_387 h (fun _ _ hc => s_X10_pay (d := 3) (xs (x3 + (1 : Int32)).toNatClampNeg) (xs (x3 + (2 : Int32)).toNatClampNeg)  hc) (fun r40 σ41 h => ?_)
      refine v_icmp_eq C dL_law_390 (tgt := 871) (by decide) h (fun h => ?_) (fun h => ?_)
      · refine v_iinc C dL_law_871 rfl (kc_5 _) (lc1 := [some (.ref b), some (.ref (ad G 9 0 0)), some (.ref (ad G 10 0 0)), some (.int (x3 + 5))]) rfl ?_
        refine v_goto C dL_law_874 (tgt := 18) (by decide) ?_
        refine v_mask [true, true, true, true] (lc' := [some (.ref b), some (.ref (ad G 9 0 0)), some (.ref (ad G 10 0 0)), some (.int (x3 + 5))]) rfl ?_
        exact hrec1 _ _ h
      · cases h
    refine v_tcase h (fun hc47 h => ?_) (fun hc47 h => ?_)
    · refine v_tin C dL_law_32 (tgt := 395) (by rw [hc47]; decide) (by rw [hc47]; decide) (by rw [hc47]; exact rfl) (by decide) ?_
      refine v_aload_n C dL_law_395 rfl rfl ?_
      refine v_aload_n C dL_law_396 rfl rfl ?_
      refine v_iload_n C dL_law_397 rfl rfl ?_
      refine v_iconst C dL_law_398 ki_1 ?_
      refine v_iadd C dL_law_399 ?_
      refine v_sld C hX hbl hbA dL_law_400 h (fun h => ?_)
      refine v_aload_n C dL_law_401 rfl rfl ?_
      refine v_iload_n C dL_law_402 rfl rfl ?_
      refine v_iconst C dL_law_403 ki_2 ?_
      refine v_iadd C dL_law_404 ?_
      refine v_sld C hX hbl hbA dL_law_405 h (fun h => ?_)
      refine cVi C 9 0 0 (av := [.int (xs (x3 + (1 : Int32)).toNatClampNeg), .int (xs (x3 + (2 : Int32)).toNatClampNeg)]) si_X9_cure lk_L_45 (ok9) rfl rfl rfl rfl (st := []) rfl (Nat.le_of_ble_eq_true rfl) dL_law_406 h (fun _ _ hc => s_X9_cure (d := 3) (xs (x3 + (1 : Int32)).toNatClampNeg) (xs (x3 + (2 : Int32)).toNatClampNeg)  hc) (fun r43 σ44 h => ?_)
      refine v_aload_n C dL_law_409 rfl rfl ?_
      refine v_aload_n C dL_law_410 rfl rfl ?_
      refine v_iload_n C dL_law_411 rfl rfl ?_
      refine v_iconst C dL_law_412 ki_1 ?_
      refine v_iadd C dL_law_413 ?_
      refine v_sld C hX hbl hbA dL_law_414 h (fun h => ?_)
      refine v_aload_n C dL_law_415 rfl rfl ?_
      refine v_iload_n C dL_law_416 rfl rfl ?_
      refine v_iconst C dL_law_417 ki_2 ?_
      refine v_iadd C dL_law_418 ?_
      refine v_sld C hX hbl hbA dL_law_419 h (fun h => ?_)
      refine cVi C 10 0 0 (av := [.int (xs (x3 + (1 : Int32)).toNatClampNeg), .int (xs (x3 + (2 : Int32)).toNatClampNeg)]) si_X10_cure lk_L_48 (ok10) rfl rfl rfl rfl (st := [.int r43]) rfl (Nat.le_of_ble_eq_true rfl) dL_law_420 h (fun _ _ hc => s_X10_cure (d := 4) (xs (x3 + (1 : Int32)).toNatClampNeg) (xs (x3 + (2 : Int32)).toNatClampNeg)  hc) (fun r45 σ46 h => ?_)
      refine v_icmp_eq C dL_law_423 (tgt := 871) (by decide) h (fun h => ?_) (fun h => ?_)
      · refine v_iinc C dL_law_871 rfl (kc_5 _) (lc1 := [some (.ref b), some (.ref (ad G 9 0 0)), some (.ref (ad G 10 0 0)), some (.int (x3 + 5))]) rfl ?_
        refine v_goto C dL_law_874 (tgt := 18) (by decide) ?_
        refine v_mask [true, true, true, true] (lc' := [some (.ref b), some (.ref (ad G 9 0 0)), some (.ref (ad G 10 0 0)), some (.int (x3 + 5))]) rfl ?_
        exact hrec1 _ _ h
      · cases h
    refine v_tcase h (fun hc52 h => ?_) (fun hc52 h => ?_)
    · refine v_tin C dL_law_32 (tgt := 428) (by rw [hc52]; decide) (by rw [hc52]; decide) (by rw [hc52]; exact rfl) (by decide) ?_
      refine v_aload_n C dL_law_428 rfl rfl ?_
      refine v_aload_n C dL_law_429 rfl rfl ?_
      refine v_iload_n C dL_law_430 rfl rfl ?_
      refine v_iconst C dL_law_431 ki_1 ?_
      refine v_iadd C dL_law_432 ?_
      refine v_sld C hX hbl hbA dL_law_433 h (fun h => ?_)
      refine v_aload_n C dL_law_434 rfl rfl ?_
      refine v_iload_n C dL_law_435 rfl rfl ?_
      refine v_iconst C dL_law_436 ki_2 ?_
      refine v_iadd C dL_law_437 ?_
      refine v_sld C hX hbl hbA dL_law_438 h (fun h => ?_)
      refine cVi C 9 0 0 (av := [.int (xs (x3 + (1 : Int32)).toNatClampNeg), .int (xs (x3 + (2 : Int32)).toNatClampNeg)]) si_X9_sell lk_L_49 (ok9) rfl rfl rfl rfl (st := []) rfl (Nat.le_of_ble_eq_true rfl) dL_law_439 h (fun _ _ hc => s_X9_sell (d := 3) (xs (x3 + (1 : Int32)).toNatClampNeg) (xs (x3 + (2 : Int32)).toNatClampNeg)  hc) (fun r48 σ49 h => ?_)
      refine v_aload_n C dL_law_442 rfl rfl ?_
      refine v_aload_n C dL_law_443 rfl rfl ?_
      refine v_iload_n C dL_law_444 rfl rfl ?_
      refine v_iconst C dL_law_445 ki_1 ?_
      refine v_iadd C dL_law_446 ?_
      refine v_sld C hX hbl hbA dL_law_447 h (fun h => ?_)
      refine v_aload_n C dL_law_448 rfl rfl ?_
      refine v_iload_n C dL_law_449 rfl rfl ?_
      refine v_iconst C dL_law_450 ki_2 ?_
      refine v_iadd C dL_law_451 ?_
      refine v_sld C hX hbl hbA dL_law_452 h (fun h => ?_)
      refine cVi C 10 0 0 (av := [.int (xs (x3 + (1 : Int32)).toNatClampNeg), .int (xs (x3 + (2 : Int32)).toNatClampNeg)]) si_X10_sell lk_L_52 (ok10) rfl rfl rfl rfl (st := [.int r48]) rfl (Nat.le_of_ble_eq_true rfl) dL_law_453 h (fun _ _ hc => s_X10_sell (d := 3) (xs (x3 + (1 : Int32)).toNatClampNeg) (xs (x3 + (2 : Int32)).toNatClampNeg)  hc) (fun r50 σ51 h => ?_)
      refine v_icmp_eq C dL_law_456 (tgt := 871) (by decide) h (fun h => ?_) (fun h => ?_)
      · refine v_iinc C dL_law_871 rfl (kc_5 _) (lc1 := [some (.ref b), some (.ref (ad G 9 0 0)), some (.ref (ad G 10 0 0)), some (.int (x3 + 5))]) rfl ?_
        refine v_goto C dL_law_874 (tgt := 18) (by decide) ?_
        refine v_mask [true, true, true, true] (lc' := [some (.ref b), some (.ref (ad G 9 0 0)), some (.ref (ad G 10 0 0)), some (.int (x3 + 5))]) rfl ?_
        exact hrec1 _ _ h
      · cases h
    refine v_tcase h (fun hc57 h => ?_) (fun hc57 h => ?_)
    · refine v_tin C dL_law_32 (tgt := 461) (by rw [hc57]; decide) (by rw [hc57]; decide) (by rw [hc57]; exact rfl) (by decide) ?_
      refine v_aload_n C dL_law_461 rfl rfl ?_
      refine v_aload_n C dL_law_462 rfl rfl ?_
      refine v_iload_n C dL_law_463 rfl rfl ?_
      refine v_iconst C dL_law_464 ki_1 ?_
      refine v_iadd C dL_law_465 ?_
      refine v_sld C hX hbl hbA dL_law_466 h (fun h => ?_)
      refine v_aload_n C dL_law_467 rfl rfl ?_
      refine v_iload_n C dL_law_468 rfl rfl ?_
      refine v_iconst C dL_law_469 ki_2 ?_
      refine v_iadd C dL_law_470 ?_
      refine v_sld C hX hbl hbA dL_law_471 h (fun h => ?_)
      refine cVi C 9 0 0 (av := [.int (xs (x3 + (1 : Int32)).toNatClampNeg), .int (xs (x3 + (2 : Int32)).toNatClampNeg)]) si_X9_switchServicer lk_L_53 (ok9) rfl rfl rfl rfl (st := []) rfl (Nat.le_of_ble_eq_true rfl) dL_law_472 h (fun _ _ hc => s_X9_switchServicer (d := 3) (xs (x3 + (1 : Int32)).toNatClampNeg) (xs (x3 + (2 : Int32)).toNatClampNeg)  hc) (fun r53 σ54 h => ?_)
      refine v_aload_n C dL_law_475 rfl rfl ?_
      refine v_aload_n C dL_law_476 rfl rfl ?_
      refine v_iload_n C dL_law_477 rfl rfl ?_
      refine v_iconst C dL_law_478 ki_1 ?_
      refine v_iadd C dL_law_479 ?_
      refine v_sld C hX hbl hbA dL_law_480 h (fun h => ?_)
      refine v_aload_n C dL_law_481 rfl rfl ?_
      refine v_iload_n C dL_law_482 rfl rfl ?_
      refine v_iconst C dL_law_483 ki_2 ?_
      refine v_iadd C dL_law_484 ?_
      refine v_sld C hX hbl hbA dL_law_485 h (fun h => ?_)
      refine cVi C 10 0 0 (av := [.int (xs (x3 + (1 : Int32)).toNatClampNeg), .int (xs (x3 + (2 : Int32)).toNatClampNeg)]) si_X10_switchServicer lk_L_56 (ok10) rfl rfl rfl rfl (st := [.int r53]) rfl (Nat.le_of_ble_eq_true rfl) dL_law_486 h (fun _ _ hc => s_X10_switchServicer (d := 4) (xs (x3 + (1 : Int32)).toNatClampNeg) (xs (x3 + (2 : Int32)).toNatClampNeg)  hc) (fun r55 σ56 h => ?_)
      refine v_icmp_eq C dL_law_489 (tgt := 871) (by decide) h (fun h => ?_) (fun h => ?_)
      · refine v_iinc C dL_law_871 rfl (kc_5 _) (lc1 := [some (.ref b), some (.ref (ad G 9 0 0)), some (.ref (ad G 10 0 0)), some (.int (x3 + 5))]) rfl ?_
        refine v_goto C dL_law_874 (tgt := 18) (by decide) ?_
        refine v_mask [true, true, true, true] (lc' := [some (.ref b), some (.ref (ad G 9 0 0)), some (.ref (ad G 10 0 0)), some (.int (x3 + 5))]) rfl ?_
        exact hrec1 _ _ h
      · cases h
    refine v_tcase h (fun hc62 h => ?_) (fun hc62 h => ?_)
    · refine v_tin C dL_law_32 (tgt := 494) (by rw [hc62]; decide) (by rw [hc62]; decide) (by rw [hc62]; exact rfl) (by decide) ?_
      refine v_aload_n C dL_law_494 rfl rfl ?_
      refine v_aload_n C dL_law_495 rfl rfl ?_
      refine v_iload_n C dL_law_496 rfl rfl ?_
      refine v_iconst C dL_law_497 ki_1 ?_
      refine v_iadd C dL_law_498 ?_
      refine v_sld C hX hbl hbA dL_law_499 h (fun h => ?_)
      refine v_aload_n C dL_law_500 rfl rfl ?_
      refine v_iload_n C dL_law_501 rfl rfl ?_
      refine v_iconst C dL_law_502 ki_2 ?_
      refine v_iadd C dL_law_503 ?_
      refine v_sld C hX hbl hbA dL_law_504 h (fun h => ?_)
      refine v_aload_n C dL_law_505 rfl rfl ?_
      refine v_iload_n C dL_law_506 rfl rfl ?_
      refine v_iconst C dL_law_507 ki_3 ?_
      refine v_iadd C dL_law_508 ?_
      refine v_sld C hX hbl hbA dL_law_509 h (fun h => ?_)
      refine cVi C 9 0 0 (av := [.int (xs (x3 + (1 : Int32)).toNatClampNeg), .int (xs (x3 + (2 : Int32)).toNatClampNeg), .int (xs (x3 + (3 : Int32)).toNatClampNeg)]) si_X9_sellNote lk_L_57 (ok9) rfl rfl rfl rfl (st := []) rfl (Nat.le_of_ble_eq_true rfl) dL_law_510 h (fun _ _ hc => s_X9_sellNote (d := 3) (xs (x3 + (1 : Int32)).toNatClampNeg) (xs (x3 + (2 : Int32)).toNatClampNeg) (xs (x3 + (3 : Int32)).toNatClampNeg)  hc) (fun r58 σ59 h => ?_)
      refine v_aload_n C dL_law_513 rfl rfl ?_
      refine v_aload_n C dL_law_514 rfl rfl ?_
      refine v_iload_n C dL_law_515 rfl rfl ?_
      refine v_iconst C dL_law_516 ki_1 ?_
      refine v_iadd C dL_law_517 ?_
      refine v_sld C hX hbl hbA dL_law_518 h (fun h => ?_)
      refine v_aload_n C dL_law_519 rfl rfl ?_
      refine v_iload_n C dL_law_520 rfl rfl ?_
      refine v_iconst C dL_law_521 ki_2 ?_
      refine v_iadd C dL_law_522 ?_
      refine v_sld C hX hbl hbA dL_law_523 h (fun h => ?_)
      refine v_aload_n C dL_law_524 rfl rfl ?_
      refine v_iload_n C dL_law_525 rfl rfl ?_
      refine v_iconst C dL_law_526 ki_3 ?_
      refine v_iadd C dL_law_527 ?_
      refine v_sld C hX hbl hbA dL_law_528 h (fun h => ?_)
      refine cVi C 10 0 0 (av := [.int (xs (x3 + (1 : Int32)).toNatClampNeg), .int (xs (x3 + (2 : Int32)).toNatClampNeg), .int (xs (x3 + (3 : Int32)).toNatClampNeg)]) si_X10_sellNote lk_L_60 (ok10) rfl rfl rfl rfl (st := [.int r58]) rfl (Nat.le_of_ble_eq_true rfl) dL_law_529 h (fun _ _ hc => s_X10_sellNote (d := 4) (xs (x3 + (1 : Int32)).toNatClampNeg) (xs (x3 + (2 : Int32)).toNatClampNeg) (xs (x3 + (3 : Int32)).toNatClampNeg)  hc) (fun r60 σ61 h => ?_)
      refine v_icmp_eq C dL_law_532 (tgt := 871) (by decide) h (fun h => ?_) (fun h => ?_)
      · refine v_iinc C dL_law_871 rfl (kc_5 _) (lc1 := [some (.ref b), some (.ref (ad G 9 0 0)), some (.ref (ad G 10 0 0)), some (.int (x3 + 5))]) rfl ?_
        refine v_goto C dL_law_874 (tgt := 18) (by decide) ?_
        refine v_mask [true, true, true, true] (lc' := [some (.ref b), some (.ref (ad G 9 0 0)), some (.ref (ad G 10 0 0)), some (.int (x3 + 5))]) rfl ?_
        exact hrec1 _ _ h
      · cases h
    refine v_tcase h (fun hc67 h => ?_) (fun hc67 h => ?_)
    · refine v_tin C dL_law_32 (tgt := 537) (by rw [hc67]; decide) (by rw [hc67]; decide) (by rw [hc67]; exact rfl) (by decide) ?_
      refine v_aload_n C dL_law_537 rfl rfl ?_
      refine v_aload_n C dL_law_538 rfl rfl ?_
      refine v_iload_n C dL_law_539 rfl rfl ?_
      refine v_iconst C dL_law_540 ki_1 ?_
      refine v_iadd C dL_law_541 ?_
      refine v_sld C hX hbl hbA dL_law_542 h (fun h => ?_)
      refine cVi C 9 0 0 (av := [.int (xs (x3 + (1 : Int32)).toNatClampNeg)]) si_X9_pass lk_L_61 (ok9) rfl rfl rfl rfl (st := []) rfl (Nat.le_of_ble_eq_true rfl) dL_law_543 h (fun _ _ hc => s_X9_pass (d := 3) (xs (x3 + (1 : Int32)).toNatClampNeg)  hc) (fun r63 σ64 h => ?_)
      refine v_aload_n C dL_law_546 rfl rfl ?_
      refine v_aload_n C dL_law_547 rfl rfl ?_
      refine v_iload_n C dL_law_548 rfl rfl ?_
      refine v_iconst C dL_law_549 ki_1 ?_
      refine v_iadd C dL_law_550 ?_
      refine v_sld C hX hbl hbA dL_law_551 h (fun h => ?_)
      refine cVi C 10 0 0 (av := [.int (xs (x3 + (1 : Int32)).toNatClampNeg)]) si_X10_pass lk_L_64 (ok10) rfl rfl rfl rfl (st := [.int r63]) rfl (Nat.le_of_ble_eq_true rfl) dL_law_552 h (fun _ _ hc => s_X10_pass (d := 3) (xs (x3 + (1 : Int32)).toNatClampNeg)  hc) (fun r65 σ66 h => ?_)
      refine v_icmp_eq C dL_law_555 (tgt := 871) (by decide) h (fun h => ?_) (fun h => ?_)
      · refine v_iinc C dL_law_871 rfl (kc_5 _) (lc1 := [some (.ref b), some (.ref (ad G 9 0 0)), some (.ref (ad G 10 0 0)), some (.int (x3 + 5))]) rfl ?_
        refine v_goto C dL_law_874 (tgt := 18) (by decide) ?_
        refine v_mask [true, true, true, true] (lc' := [some (.ref b), some (.ref (ad G 9 0 0)), some (.ref (ad G 10 0 0)), some (.int (x3 + 5))]) rfl ?_
        exact hrec1 _ _ h
      · cases h
    refine v_tcase h (fun hc72 h => ?_) (fun hc72 h => ?_)
    · refine v_tin C dL_law_32 (tgt := 560) (by rw [hc72]; decide) (by rw [hc72]; decide) (by rw [hc72]; exact rfl) (by decide) ?_
      refine v_aload_n C dL_law_560 rfl rfl ?_
      refine v_aload_n C dL_law_561 rfl rfl ?_
      refine v_iload_n C dL_law_562 rfl rfl ?_
      refine v_iconst C dL_law_563 ki_1 ?_
      refine v_iadd C dL_law_564 ?_
      refine v_sld C hX hbl hbA dL_law_565 h (fun h => ?_)
      refine v_i2c C dL_law_566 ?_
      refine cVi C 9 0 0 (av := [.int (((xs (x3 + (1 : Int32)).toNatClampNeg).toUInt32 % 65536).toInt32)]) si_X9_type lk_L_65 (ok9) rfl rfl rfl rfl (st := []) rfl (Nat.le_of_ble_eq_true rfl) dL_law_567 h (fun _ _ hc => s_X9_type (d := 6) (((xs (x3 + (1 : Int32)).toNatClampNeg).toUInt32 % 65536).toInt32)  hc) (fun r68 σ69 h => ?_)
      refine v_aload_n C dL_law_570 rfl rfl ?_
      refine v_aload_n C dL_law_571 rfl rfl ?_
      refine v_iload_n C dL_law_572 rfl rfl ?_
      refine v_iconst C dL_law_573 ki_1 ?_
      refine v_iadd C dL_law_574 ?_
      refine v_sld C hX hbl hbA dL_law_575 h (fun h => ?_)
      refine v_i2c C dL_law_576 ?_
      refine cVi C 10 0 0 (av := [.int (((xs (x3 + (1 : Int32)).toNatClampNeg).toUInt32 % 65536).toInt32)]) si_X10_type lk_L_69 (ok10) rfl rfl rfl rfl (st := [.int r68]) rfl (Nat.le_of_ble_eq_true rfl) dL_law_577 h (fun _ _ hc => s_X10_type (d := 6) (((xs (x3 + (1 : Int32)).toNatClampNeg).toUInt32 % 65536).toInt32)  hc) (fun r70 σ71 h => ?_)
      refine v_icmp_eq C dL_law_580 (tgt := 871) (by decide) h (fun h => ?_) (fun h => ?_)
      · refine v_iinc C dL_law_871 rfl (kc_5 _) (lc1 := [some (.ref b), some (.ref (ad G 9 0 0)), some (.ref (ad G 10 0 0)), some (.int (x3 + 5))]) rfl ?_
        refine v_goto C dL_law_874 (tgt := 18) (by decide) ?_
        refine v_mask [true, true, true, true] (lc' := [some (.ref b), some (.ref (ad G 9 0 0)), some (.ref (ad G 10 0 0)), some (.int (x3 + 5))]) rfl ?_
        exact hrec1 _ _ h
      · cases h
    refine v_tcase h (fun hc77 h => ?_) (fun hc77 h => ?_)
    · refine v_tin C dL_law_32 (tgt := 585) (by rw [hc77]; decide) (by rw [hc77]; decide) (by rw [hc77]; exact rfl) (by decide) ?_
      refine v_aload_n C dL_law_585 rfl rfl ?_
      refine cVi C 9 0 0 (av := []) si_X9_clearText lk_L_70 (ok9) rfl rfl rfl rfl (st := []) rfl (Nat.le_of_ble_eq_true rfl) dL_law_586 h (fun _ _ hc => s_X9_clearText (d := 6)   hc) (fun r73 σ74 h => ?_)
      refine v_aload_n C dL_law_589 rfl rfl ?_
      refine cVi C 10 0 0 (av := []) si_X10_clearText lk_L_74 (ok10) rfl rfl rfl rfl (st := [.int r73]) rfl (Nat.le_of_ble_eq_true rfl) dL_law_590 h (fun _ _ hc => s_X10_clearText (d := 6)   hc) (fun r75 σ76 h => ?_)
      refine v_icmp_eq C dL_law_593 (tgt := 871) (by decide) h (fun h => ?_) (fun h => ?_)
      · refine v_iinc C dL_law_871 rfl (kc_5 _) (lc1 := [some (.ref b), some (.ref (ad G 9 0 0)), some (.ref (ad G 10 0 0)), some (.int (x3 + 5))]) rfl ?_
        refine v_goto C dL_law_874 (tgt := 18) (by decide) ?_
        refine v_mask [true, true, true, true] (lc' := [some (.ref b), some (.ref (ad G 9 0 0)), some (.ref (ad G 10 0 0)), some (.int (x3 + 5))]) rfl ?_
        exact hrec1 _ _ h
      · cases h
    refine v_tcase h (fun hc82 h => ?_) (fun hc82 h => ?_)
    · refine v_tin C dL_law_32 (tgt := 598) (by rw [hc82]; decide) (by rw [hc82]; decide) (by rw [hc82]; exact rfl) (by decide) ?_
      refine v_aload_n C dL_law_598 rfl rfl ?_
      refine cVi C 9 0 0 (av := []) si_X9_readFundings lk_L_75 (ok9) rfl rfl rfl rfl (st := []) rfl (Nat.le_of_ble_eq_true rfl) dL_law_599 h (fun _ _ hc => s_X9_readFundings (d := 2)   hc) (fun r78 σ79 h => ?_)
      refine v_aload_n C dL_law_602 rfl rfl ?_
      refine cVi C 10 0 0 (av := []) si_X10_readFundings lk_L_78 (ok10) rfl rfl rfl rfl (st := [.int r78]) rfl (Nat.le_of_ble_eq_true rfl) dL_law_603 h (fun _ _ hc => s_X10_readFundings (d := 2)   hc) (fun r80 σ81 h => ?_)
      refine v_icmp_eq C dL_law_606 (tgt := 871) (by decide) h (fun h => ?_) (fun h => ?_)
      · refine v_iinc C dL_law_871 rfl (kc_5 _) (lc1 := [some (.ref b), some (.ref (ad G 9 0 0)), some (.ref (ad G 10 0 0)), some (.int (x3 + 5))]) rfl ?_
        refine v_goto C dL_law_874 (tgt := 18) (by decide) ?_
        refine v_mask [true, true, true, true] (lc' := [some (.ref b), some (.ref (ad G 9 0 0)), some (.ref (ad G 10 0 0)), some (.int (x3 + 5))]) rfl ?_
        exact hrec1 _ _ h
      · cases h
    refine v_tcase h (fun hc87 h => ?_) (fun hc87 h => ?_)
    · refine v_tin C dL_law_32 (tgt := 611) (by rw [hc87]; decide) (by rw [hc87]; decide) (by rw [hc87]; exact rfl) (by decide) ?_
      refine v_aload_n C dL_law_611 rfl rfl ?_
      refine cVi C 9 0 0 (av := []) si_X9_undo lk_L_79 (ok9) rfl rfl rfl rfl (st := []) rfl (Nat.le_of_ble_eq_true rfl) dL_law_612 h (fun _ _ hc => s_X9_undo (d := 3)   hc) (fun r83 σ84 h => ?_)
      refine v_aload_n C dL_law_615 rfl rfl ?_
      refine cVi C 10 0 0 (av := []) si_X10_undo lk_L_82 (ok10) rfl rfl rfl rfl (st := [.int r83]) rfl (Nat.le_of_ble_eq_true rfl) dL_law_616 h (fun _ _ hc => s_X10_undo (d := 6)   hc) (fun r85 σ86 h => ?_)
      refine v_icmp_eq C dL_law_619 (tgt := 871) (by decide) h (fun h => ?_) (fun h => ?_)
      · refine v_iinc C dL_law_871 rfl (kc_5 _) (lc1 := [some (.ref b), some (.ref (ad G 9 0 0)), some (.ref (ad G 10 0 0)), some (.int (x3 + 5))]) rfl ?_
        refine v_goto C dL_law_874 (tgt := 18) (by decide) ?_
        refine v_mask [true, true, true, true] (lc' := [some (.ref b), some (.ref (ad G 9 0 0)), some (.ref (ad G 10 0 0)), some (.int (x3 + 5))]) rfl ?_
        exact hrec1 _ _ h
      · cases h
    refine v_tcase h (fun hc92 h => ?_) (fun hc92 h => ?_)
    · refine v_tin C dL_law_32 (tgt := 624) (by rw [hc92]; decide) (by rw [hc92]; decide) (by rw [hc92]; exact rfl) (by decide) ?_
      refine v_aload_n C dL_law_624 rfl rfl ?_
      refine cVi C 9 0 0 (av := []) si_X9_keep lk_L_83 (ok9) rfl rfl rfl rfl (st := []) rfl (Nat.le_of_ble_eq_true rfl) dL_law_625 h (fun _ _ hc => s_X9_keep (d := 4)   hc) (fun r88 σ89 h => ?_)
      refine v_aload_n C dL_law_628 rfl rfl ?_
      refine cVi C 10 0 0 (av := []) si_X10_keep lk_L_86 (ok10) rfl rfl rfl rfl (st := [.int r88]) rfl (Nat.le_of_ble_eq_true rfl) dL_law_629 h (fun _ _ hc => s_X10_keep (d := 6)   hc) (fun r90 σ91 h => ?_)
      refine v_icmp_eq C dL_law_632 (tgt := 871) (by decide) h (fun h => ?_) (fun h => ?_)
      · refine v_iinc C dL_law_871 rfl (kc_5 _) (lc1 := [some (.ref b), some (.ref (ad G 9 0 0)), some (.ref (ad G 10 0 0)), some (.int (x3 + 5))]) rfl ?_
        refine v_goto C dL_law_874 (tgt := 18) (by decide) ?_
        refine v_mask [true, true, true, true] (lc' := [some (.ref b), some (.ref (ad G 9 0 0)), some (.ref (ad G 10 0 0)), some (.int (x3 + 5))]) rfl ?_
        exact hrec1 _ _ h
      · cases h
    refine v_tcase h (fun hc97 h => ?_) (fun hc97 h => ?_)
    · refine v_tin C dL_law_32 (tgt := 637) (by rw [hc97]; decide) (by rw [hc97]; decide) (by rw [hc97]; exact rfl) (by decide) ?_
      refine v_aload_n C dL_law_637 rfl rfl ?_
      refine cVi C 9 0 0 (av := []) si_X9_restore lk_L_87 (ok9) rfl rfl rfl rfl (st := []) rfl (Nat.le_of_ble_eq_true rfl) dL_law_638 h (fun _ _ hc => s_X9_restore (d := 3)   hc) (fun r93 σ94 h => ?_)
      refine v_aload_n C dL_law_641 rfl rfl ?_
      refine cVi C 10 0 0 (av := []) si_X10_restore lk_L_90 (ok10) rfl rfl rfl rfl (st := [.int r93]) rfl (Nat.le_of_ble_eq_true rfl) dL_law_642 h (fun _ _ hc => s_X10_restore (d := 4)   hc) (fun r95 σ96 h => ?_)
      refine v_icmp_eq C dL_law_645 (tgt := 871) (by decide) h (fun h => ?_) (fun h => ?_)
      · refine v_iinc C dL_law_871 rfl (kc_5 _) (lc1 := [some (.ref b), some (.ref (ad G 9 0 0)), some (.ref (ad G 10 0 0)), some (.int (x3 + 5))]) rfl ?_
        refine v_goto C dL_law_874 (tgt := 18) (by decide) ?_
        refine v_mask [true, true, true, true] (lc' := [some (.ref b), some (.ref (ad G 9 0 0)), some (.ref (ad G 10 0 0)), some (.int (x3 + 5))]) rfl ?_
        exact hrec1 _ _ h
      · cases h
    refine v_tcase h (fun hc102 h => ?_) (fun hc102 h => ?_)
    · refine v_tin C dL_law_32 (tgt := 650) (by rw [hc102]; decide) (by rw [hc102]; decide) (by rw [hc102]; exact rfl) (by decide) ?_
      refine v_aload_n C dL_law_650 rfl rfl ?_
      refine v_aload_n C dL_law_651 rfl rfl ?_
      refine v_iload_n C dL_law_652 rfl rfl ?_
      refine v_iconst C dL_law_653 ki_1 ?_
      refine v_iadd C dL_law_654 ?_
      refine v_sld C hX hbl hbA dL_law_655 h (fun h => ?_)
      refine v_aload_n C dL_law_656 rfl rfl ?_
      refine v_iload_n C dL_law_657 rfl rfl ?_
      refine v_iconst C dL_law_658 ki_2 ?_
      refine v_iadd C dL_law_659 ?_
      refine v_sld C hX hbl hbA dL_law_660 h (fun h => ?_)
      refine cVi C 9 0 0 (av := [.int (xs (x3 + (1 : Int32)).toNatClampNeg), .int (xs (x3 + (2 : Int32)).toNatClampNeg)]) si_X9_investor lk_L_91 (ok9) rfl rfl rfl rfl (st := []) rfl (Nat.le_of_ble_eq_true rfl) dL_law_661 h (fun _ _ hc => s_X9_investor (d := 5) (xs (x3 + (1 : Int32)).toNatClampNeg) (xs (x3 + (2 : Int32)).toNatClampNeg)  hc) (fun r98 σ99 h => ?_)
      refine v_aload_n C dL_law_664 rfl rfl ?_
      refine v_aload_n C dL_law_665 rfl rfl ?_
      refine v_iload_n C dL_law_666 rfl rfl ?_
      refine v_iconst C dL_law_667 ki_1 ?_
      refine v_iadd C dL_law_668 ?_
      refine v_sld C hX hbl hbA dL_law_669 h (fun h => ?_)
      refine v_aload_n C dL_law_670 rfl rfl ?_
      refine v_iload_n C dL_law_671 rfl rfl ?_
      refine v_iconst C dL_law_672 ki_2 ?_
      refine v_iadd C dL_law_673 ?_
      refine v_sld C hX hbl hbA dL_law_674 h (fun h => ?_)
      refine cVi C 10 0 0 (av := [.int (xs (x3 + (1 : Int32)).toNatClampNeg), .int (xs (x3 + (2 : Int32)).toNatClampNeg)]) si_X10_investor lk_L_94 (ok10) rfl rfl rfl rfl (st := [.int r98]) rfl (Nat.le_of_ble_eq_true rfl) dL_law_675 h (fun _ _ hc => s_X10_investor (d := 4) (xs (x3 + (1 : Int32)).toNatClampNeg) (xs (x3 + (2 : Int32)).toNatClampNeg)  hc) (fun r100 σ101 h => ?_)
      refine v_icmp_eq C dL_law_678 (tgt := 871) (by decide) h (fun h => ?_) (fun h => ?_)
      · refine v_iinc C dL_law_871 rfl (kc_5 _) (lc1 := [some (.ref b), some (.ref (ad G 9 0 0)), some (.ref (ad G 10 0 0)), some (.int (x3 + 5))]) rfl ?_
        refine v_goto C dL_law_874 (tgt := 18) (by decide) ?_
        refine v_mask [true, true, true, true] (lc' := [some (.ref b), some (.ref (ad G 9 0 0)), some (.ref (ad G 10 0 0)), some (.int (x3 + 5))]) rfl ?_
        exact hrec1 _ _ h
      · cases h
    refine v_tcase h (fun hc107 h => ?_) (fun hc107 h => ?_)
    · refine v_tin C dL_law_32 (tgt := 683) (by rw [hc107]; decide) (by rw [hc107]; decide) (by rw [hc107]; exact rfl) (by decide) ?_
      refine v_aload_n C dL_law_683 rfl rfl ?_
      refine v_aload_n C dL_law_684 rfl rfl ?_
      refine v_iload_n C dL_law_685 rfl rfl ?_
      refine v_iconst C dL_law_686 ki_1 ?_
      refine v_iadd C dL_law_687 ?_
      refine v_sld C hX hbl hbA dL_law_688 h (fun h => ?_)
      refine v_aload_n C dL_law_689 rfl rfl ?_
      refine v_iload_n C dL_law_690 rfl rfl ?_
      refine v_iconst C dL_law_691 ki_2 ?_
      refine v_iadd C dL_law_692 ?_
      refine v_sld C hX hbl hbA dL_law_693 h (fun h => ?_)
      refine cVi C 9 0 0 (av := [.int (xs (x3 + (1 : Int32)).toNatClampNeg), .int (xs (x3 + (2 : Int32)).toNatClampNeg)]) si_X9_loan lk_L_95 (ok9) rfl rfl rfl rfl (st := []) rfl (Nat.le_of_ble_eq_true rfl) dL_law_694 h (fun _ _ hc => s_X9_loan (d := 4) (xs (x3 + (1 : Int32)).toNatClampNeg) (xs (x3 + (2 : Int32)).toNatClampNeg)  hc) (fun r103 σ104 h => ?_)
      refine v_aload_n C dL_law_697 rfl rfl ?_
      refine v_aload_n C dL_law_698 rfl rfl ?_
      refine v_iload_n C dL_law_699 rfl rfl ?_
      refine v_iconst C dL_law_700 ki_1 ?_
      refine v_iadd C dL_law_701 ?_
      refine v_sld C hX hbl hbA dL_law_702 h (fun h => ?_)
      refine v_aload_n C dL_law_703 rfl rfl ?_
      refine v_iload_n C dL_law_704 rfl rfl ?_
      refine v_iconst C dL_law_705 ki_2 ?_
      refine v_iadd C dL_law_706 ?_
      refine v_sld C hX hbl hbA dL_law_707 h (fun h => ?_)
      refine cVi C 10 0 0 (av := [.int (xs (x3 + (1 : Int32)).toNatClampNeg), .int (xs (x3 + (2 : Int32)).toNatClampNeg)]) si_X10_loan lk_L_98 (ok10) rfl rfl rfl rfl (st := [.int r103]) rfl (Nat.le_of_ble_eq_true rfl) dL_law_708 h (fun _ _ hc => s_X10_loan (d := 3) (xs (x3 + (1 : Int32)).toNatClampNeg) (xs (x3 + (2 : Int32)).toNatClampNeg)  hc) (fun r105 σ106 h => ?_)
      refine v_icmp_eq C dL_law_711 (tgt := 871) (by decide) h (fun h => ?_) (fun h => ?_)
      · refine v_iinc C dL_law_871 rfl (kc_5 _) (lc1 := [some (.ref b), some (.ref (ad G 9 0 0)), some (.ref (ad G 10 0 0)), some (.int (x3 + 5))]) rfl ?_
        refine v_goto C dL_law_874 (tgt := 18) (by decide) ?_
        refine v_mask [true, true, true, true] (lc' := [some (.ref b), some (.ref (ad G 9 0 0)), some (.ref (ad G 10 0 0)), some (.int (x3 + 5))]) rfl ?_
        exact hrec1 _ _ h
      · cases h
    refine v_tcase h (fun hc112 h => ?_) (fun hc112 h => ?_)
    · refine v_tin C dL_law_32 (tgt := 716) (by rw [hc112]; decide) (by rw [hc112]; decide) (by rw [hc112]; exact rfl) (by decide) ?_
      refine v_aload_n C dL_law_716 rfl rfl ?_
      refine v_aload_n C dL_law_717 rfl rfl ?_
      refine v_iload_n C dL_law_718 rfl rfl ?_
      refine v_iconst C dL_law_719 ki_1 ?_
      refine v_iadd C dL_law_720 ?_
      refine v_sld C hX hbl hbA dL_law_721 h (fun h => ?_)
      refine v_aload_n C dL_law_722 rfl rfl ?_
      refine v_iload_n C dL_law_723 rfl rfl ?_
      refine v_iconst C dL_law_724 ki_2 ?_
      refine v_iadd C dL_law_725 ?_
      refine v_sld C hX hbl hbA dL_law_726 h (fun h => ?_)
      refine cVi C 9 0 0 (av := [.int (xs (x3 + (1 : Int32)).toNatClampNeg), .int (xs (x3 + (2 : Int32)).toNatClampNeg)]) si_X9_note lk_L_99 (ok9) rfl rfl rfl rfl (st := []) rfl (Nat.le_of_ble_eq_true rfl) dL_law_727 h (fun _ _ hc => s_X9_note (d := 5) (xs (x3 + (1 : Int32)).toNatClampNeg) (xs (x3 + (2 : Int32)).toNatClampNeg)  hc) (fun r108 σ109 h => ?_)
      refine v_aload_n C dL_law_730 rfl rfl ?_
      refine v_aload_n C dL_law_731 rfl rfl ?_
      refine v_iload_n C dL_law_732 rfl rfl ?_
      refine v_iconst C dL_law_733 ki_1 ?_
      refine v_iadd C dL_law_734 ?_
      refine v_sld C hX hbl hbA dL_law_735 h (fun h => ?_)
      refine v_aload_n C dL_law_736 rfl rfl ?_
      refine v_iload_n C dL_law_737 rfl rfl ?_
      refine v_iconst C dL_law_738 ki_2 ?_
      refine v_iadd C dL_law_739 ?_
      refine v_sld C hX hbl hbA dL_law_740 h (fun h => ?_)
      refine cVi C 10 0 0 (av := [.int (xs (x3 + (1 : Int32)).toNatClampNeg), .int (xs (x3 + (2 : Int32)).toNatClampNeg)]) si_X10_note lk_L_102 (ok10) rfl rfl rfl rfl (st := [.int r108]) rfl (Nat.le_of_ble_eq_true rfl) dL_law_741 h (fun _ _ hc => s_X10_note (d := 4) (xs (x3 + (1 : Int32)).toNatClampNeg) (xs (x3 + (2 : Int32)).toNatClampNeg)  hc) (fun r110 σ111 h => ?_)
      refine v_icmp_eq C dL_law_744 (tgt := 871) (by decide) h (fun h => ?_) (fun h => ?_)
      · refine v_iinc C dL_law_871 rfl (kc_5 _) (lc1 := [some (.ref b), some (.ref (ad G 9 0 0)), some (.ref (ad G 10 0 0)), some (.int (x3 + 5))]) rfl ?_
        refine v_goto C dL_law_874 (tgt := 18) (by decide) ?_
        refine v_mask [true, true, true, true] (lc' := [some (.ref b), some (.ref (ad G 9 0 0)), some (.ref (ad G 10 0 0)), some (.int (x3 + 5))]) rfl ?_
        exact hrec1 _ _ h
      · cases h
    refine v_tcase h (fun hc117 h => ?_) (fun hc117 h => ?_)
    · refine v_tin C dL_law_32 (tgt := 749) (by rw [hc117]; decide) (by rw [hc117]; decide) (by rw [hc117]; exact rfl) (by decide) ?_
      refine v_aload_n C dL_law_749 rfl rfl ?_
      refine v_aload_n C dL_law_750 rfl rfl ?_
      refine v_iload_n C dL_law_751 rfl rfl ?_
      refine v_iconst C dL_law_752 ki_1 ?_
      refine v_iadd C dL_law_753 ?_
      refine v_sld C hX hbl hbA dL_law_754 h (fun h => ?_)
      refine v_aload_n C dL_law_755 rfl rfl ?_
      refine v_iload_n C dL_law_756 rfl rfl ?_
      refine v_iconst C dL_law_757 ki_2 ?_
      refine v_iadd C dL_law_758 ?_
      refine v_sld C hX hbl hbA dL_law_759 h (fun h => ?_)
      refine v_aload_n C dL_law_760 rfl rfl ?_
      refine v_iload_n C dL_law_761 rfl rfl ?_
      refine v_iconst C dL_law_762 ki_3 ?_
      refine v_iadd C dL_law_763 ?_
      refine v_sld C hX hbl hbA dL_law_764 h (fun h => ?_)
      refine cVi C 9 0 0 (av := [.int (xs (x3 + (1 : Int32)).toNatClampNeg), .int (xs (x3 + (2 : Int32)).toNatClampNeg), .int (xs (x3 + (3 : Int32)).toNatClampNeg)]) si_X9_split lk_L_103 (ok9) rfl rfl rfl rfl (st := []) rfl (Nat.le_of_ble_eq_true rfl) dL_law_765 h (fun _ _ hc => s_X9_split (d := 3) (xs (x3 + (1 : Int32)).toNatClampNeg) (xs (x3 + (2 : Int32)).toNatClampNeg) (xs (x3 + (3 : Int32)).toNatClampNeg)  hc) (fun r113 σ114 h => ?_)
      refine v_aload_n C dL_law_768 rfl rfl ?_
      refine v_aload_n C dL_law_769 rfl rfl ?_
      refine v_iload_n C dL_law_770 rfl rfl ?_
      refine v_iconst C dL_law_771 ki_1 ?_
      refine v_iadd C dL_law_772 ?_
      refine v_sld C hX hbl hbA dL_law_773 h (fun h => ?_)
      refine v_aload_n C dL_law_774 rfl rfl ?_
      refine v_iload_n C dL_law_775 rfl rfl ?_
      refine v_iconst C dL_law_776 ki_2 ?_
      refine v_iadd C dL_law_777 ?_
      refine v_sld C hX hbl hbA dL_law_778 h (fun h => ?_)
      refine v_aload_n C dL_law_779 rfl rfl ?_
      refine v_iload_n C dL_law_780 rfl rfl ?_
      refine v_iconst C dL_law_781 ki_3 ?_
      refine v_iadd C dL_law_782 ?_
      refine v_sld C hX hbl hbA dL_law_783 h (fun h => ?_)
      refine cVi C 10 0 0 (av := [.int (xs (x3 + (1 : Int32)).toNatClampNeg), .int (xs (x3 + (2 : Int32)).toNatClampNeg), .int (xs (x3 + (3 : Int32)).toNatClampNeg)]) si_X10_split lk_L_106 (ok10) rfl rfl rfl rfl (st := [.int r113]) rfl (Nat.le_of_ble_eq_true rfl) dL_law_784 h (fun _ _ hc => s_X10_split (d := 3) (xs (x3 + (1 : Int32)).toNatClampNeg) (xs (x3 + (2 : Int32)).toNatClampNeg) (xs (x3 + (3 : Int32)).toNatClampNeg)  hc) (fun r115 σ116 h => ?_)
      refine v_icmp_eq C dL_law_787 (tgt := 871) (by decide) h (fun h => ?_) (fun h => ?_)
      · refine v_iinc C dL_law_871 rfl (kc_5 _) (lc1 := [some (.ref b), some (.ref (ad G 9 0 0)), some (.ref (ad G 10 0 0)), some (.int (x3 + 5))]) rfl ?_
        refine v_goto C dL_law_874 (tgt := 18) (by decide) ?_
        refine v_mask [true, true, true, true] (lc' := [some (.ref b), some (.ref (ad G 9 0 0)), some (.ref (ad G 10 0 0)), some (.int (x3 + 5))]) rfl ?_
        exact hrec1 _ _ h
      · cases h
    refine v_tcase h (fun hc122 h => ?_) (fun hc122 h => ?_)
    · refine v_tin C dL_law_32 (tgt := 792) (by rw [hc122]; decide) (by rw [hc122]; decide) (by rw [hc122]; exact rfl) (by decide) ?_
      refine v_aload_n C dL_law_792 rfl rfl ?_
      refine v_aload_n C dL_law_793 rfl rfl ?_
      refine v_iload_n C dL_law_794 rfl rfl ?_
      refine v_iconst C dL_law_795 ki_1 ?_
      refine v_iadd C dL_law_796 ?_
      refine v_sld C hX hbl hbA dL_law_797 h (fun h => ?_)
      refine cVi C 9 0 0 (av := [.int (xs (x3 + (1 : Int32)).toNatClampNeg)]) si_X9_toRepay lk_L_107 (ok9) rfl rfl rfl rfl (st := []) rfl (Nat.le_of_ble_eq_true rfl) dL_law_798 h (fun _ _ hc => s_X9_toRepay (d := 4) (xs (x3 + (1 : Int32)).toNatClampNeg)  hc) (fun r118 σ119 h => ?_)
      refine v_aload_n C dL_law_801 rfl rfl ?_
      refine v_aload_n C dL_law_802 rfl rfl ?_
      refine v_iload_n C dL_law_803 rfl rfl ?_
      refine v_iconst C dL_law_804 ki_1 ?_
      refine v_iadd C dL_law_805 ?_
      refine v_sld C hX hbl hbA dL_law_806 h (fun h => ?_)
      refine cVi C 10 0 0 (av := [.int (xs (x3 + (1 : Int32)).toNatClampNeg)]) si_X10_toRepay lk_L_110 (ok10) rfl rfl rfl rfl (st := [.int r118]) rfl (Nat.le_of_ble_eq_true rfl) dL_law_807 h (fun _ _ hc => s_X10_toRepay (d := 4) (xs (x3 + (1 : Int32)).toNatClampNeg)  hc) (fun r120 σ121 h => ?_)
      refine v_icmp_eq C dL_law_810 (tgt := 871) (by decide) h (fun h => ?_) (fun h => ?_)
      · refine v_iinc C dL_law_871 rfl (kc_5 _) (lc1 := [some (.ref b), some (.ref (ad G 9 0 0)), some (.ref (ad G 10 0 0)), some (.int (x3 + 5))]) rfl ?_
        refine v_goto C dL_law_874 (tgt := 18) (by decide) ?_
        refine v_mask [true, true, true, true] (lc' := [some (.ref b), some (.ref (ad G 9 0 0)), some (.ref (ad G 10 0 0)), some (.int (x3 + 5))]) rfl ?_
        exact hrec1 _ _ h
      · cases h
    refine v_tcase h (fun hc127 h => ?_) (fun hc127 h => ?_)
    · refine v_tin C dL_law_32 (tgt := 815) (by rw [hc127]; decide) (by rw [hc127]; decide) (by rw [hc127]; exact rfl) (by decide) ?_
      refine v_aload_n C dL_law_815 rfl rfl ?_
      refine v_aload_n C dL_law_816 rfl rfl ?_
      refine v_iload_n C dL_law_817 rfl rfl ?_
      refine v_iconst C dL_law_818 ki_1 ?_
      refine v_iadd C dL_law_819 ?_
      refine v_sld C hX hbl hbA dL_law_820 h (fun h => ?_)
      refine v_aload_n C dL_law_821 rfl rfl ?_
      refine v_iload_n C dL_law_822 rfl rfl ?_
      refine v_iconst C dL_law_823 ki_2 ?_
      refine v_iadd C dL_law_824 ?_
      refine v_sld C hX hbl hbA dL_law_825 h (fun h => ?_)
      refine cVi C 9 0 0 (av := [.int (xs (x3 + (1 : Int32)).toNatClampNeg), .int (xs (x3 + (2 : Int32)).toNatClampNeg)]) si_X9_servicer lk_L_111 (ok9) rfl rfl rfl rfl (st := []) rfl (Nat.le_of_ble_eq_true rfl) dL_law_826 h (fun _ _ hc => s_X9_servicer (d := 3) (xs (x3 + (1 : Int32)).toNatClampNeg) (xs (x3 + (2 : Int32)).toNatClampNeg)  hc) (fun r123 σ124 h => ?_)
      refine v_aload_n C dL_law_829 rfl rfl ?_
      refine v_aload_n C dL_law_830 rfl rfl ?_
      refine v_iload_n C dL_law_831 rfl rfl ?_
      refine v_iconst C dL_law_832 ki_1 ?_
      refine v_iadd C dL_law_833 ?_
      refine v_sld C hX hbl hbA dL_law_834 h (fun h => ?_)
      refine v_aload_n C dL_law_835 rfl rfl ?_
      refine v_iload_n C dL_law_836 rfl rfl ?_
      refine v_iconst C dL_law_837 ki_2 ?_
      refine v_iadd C dL_law_838 ?_
      refine v_sld C hX hbl hbA dL_law_839 h (fun h => ?_)
      refine cVi C 10 0 0 (av := [.int (xs (x3 + (1 : Int32)).toNatClampNeg), .int (xs (x3 + (2 : Int32)).toNatClampNeg)]) si_X10_servicer lk_L_114 (ok10) rfl rfl rfl rfl (st := [.int r123]) rfl (Nat.le_of_ble_eq_true rfl) dL_law_840 h (fun _ _ hc => s_X10_servicer (d := 3) (xs (x3 + (1 : Int32)).toNatClampNeg) (xs (x3 + (2 : Int32)).toNatClampNeg)  hc) (fun r125 σ126 h => ?_)
      refine v_icmp_eq C dL_law_843 (tgt := 871) (by decide) h (fun h => ?_) (fun h => ?_)
      · refine v_iinc C dL_law_871 rfl (kc_5 _) (lc1 := [some (.ref b), some (.ref (ad G 9 0 0)), some (.ref (ad G 10 0 0)), some (.int (x3 + 5))]) rfl ?_
        refine v_goto C dL_law_874 (tgt := 18) (by decide) ?_
        refine v_mask [true, true, true, true] (lc' := [some (.ref b), some (.ref (ad G 9 0 0)), some (.ref (ad G 10 0 0)), some (.int (x3 + 5))]) rfl ?_
        exact hrec1 _ _ h
      · cases h
    refine v_tcase h (fun hc132 h => ?_) (fun hc132 h => ?_)
    · refine v_tin C dL_law_32 (tgt := 848) (by rw [hc132]; decide) (by rw [hc132]; decide) (by rw [hc132]; exact rfl) (by decide) ?_
      refine v_aload_n C dL_law_848 rfl rfl ?_
      refine v_aload_n C dL_law_849 rfl rfl ?_
      refine v_iload_n C dL_law_850 rfl rfl ?_
      refine v_iconst C dL_law_851 ki_1 ?_
      refine v_iadd C dL_law_852 ?_
      refine v_sld C hX hbl hbA dL_law_853 h (fun h => ?_)
      refine cVi C 9 0 0 (av := [.int (xs (x3 + (1 : Int32)).toNatClampNeg)]) si_X9_count lk_L_115 (ok9) rfl rfl rfl rfl (st := []) rfl (Nat.le_of_ble_eq_true rfl) dL_law_854 h (fun _ _ hc => s_X9_count (d := 5) (xs (x3 + (1 : Int32)).toNatClampNeg)  hc) (fun r128 σ129 h => ?_)
      refine v_aload_n C dL_law_857 rfl rfl ?_
      refine v_aload_n C dL_law_858 rfl rfl ?_
      refine v_iload_n C dL_law_859 rfl rfl ?_
      refine v_iconst C dL_law_860 ki_1 ?_
      refine v_iadd C dL_law_861 ?_
      refine v_sld C hX hbl hbA dL_law_862 h (fun h => ?_)
      refine cVi C 10 0 0 (av := [.int (xs (x3 + (1 : Int32)).toNatClampNeg)]) si_X10_count lk_L_118 (ok10) rfl rfl rfl rfl (st := [.int r128]) rfl (Nat.le_of_ble_eq_true rfl) dL_law_863 h (fun _ _ hc => s_X10_count (d := 3) (xs (x3 + (1 : Int32)).toNatClampNeg)  hc) (fun r130 σ131 h => ?_)
      refine v_icmp_eq C dL_law_866 (tgt := 871) (by decide) h (fun h => ?_) (fun h => ?_)
      · refine v_iinc C dL_law_871 rfl (kc_5 _) (lc1 := [some (.ref b), some (.ref (ad G 9 0 0)), some (.ref (ad G 10 0 0)), some (.int (x3 + 5))]) rfl ?_
        refine v_goto C dL_law_874 (tgt := 18) (by decide) ?_
        refine v_mask [true, true, true, true] (lc' := [some (.ref b), some (.ref (ad G 9 0 0)), some (.ref (ad G 10 0 0)), some (.int (x3 + 5))]) rfl ?_
        exact hrec1 _ _ h
      · cases h
    have hc8t := tne hc8 (a := 0) (by decide)
    have hc13t := tne hc13 (a := 1) (by decide)
    have hc18t := tne hc18 (a := 2) (by decide)
    have hc23t := tne hc23 (a := 3) (by decide)
    have hc32t := tne hc32 (a := 4) (by decide)
    have hc37t := tne hc37 (a := 5) (by decide)
    have hc42t := tne hc42 (a := 6) (by decide)
    have hc47t := tne hc47 (a := 7) (by decide)
    have hc52t := tne hc52 (a := 8) (by decide)
    have hc57t := tne hc57 (a := 9) (by decide)
    have hc62t := tne hc62 (a := 10) (by decide)
    have hc67t := tne hc67 (a := 11) (by decide)
    have hc72t := tne hc72 (a := 12) (by decide)
    have hc77t := tne hc77 (a := 13) (by decide)
    have hc82t := tne hc82 (a := 14) (by decide)
    have hc87t := tne hc87 (a := 15) (by decide)
    have hc92t := tne hc92 (a := 16) (by decide)
    have hc97t := tne hc97 (a := 17) (by decide)
    have hc102t := tne hc102 (a := 18) (by decide)
    have hc107t := tne hc107 (a := 19) (by decide)
    have hc112t := tne hc112 (a := 20) (by decide)
    have hc117t := tne hc117 (a := 21) (by decide)
    have hc122t := tne hc122 (a := 22) (by decide)
    have hc127t := tne hc127 (a := 23) (by decide)
    have hc132t := tne hc132 (a := 24) (by decide)
    refine v_tout C dL_law_32 (tgt := 871) (by omega) (by decide) ?_
    refine v_iinc C dL_law_871 rfl (kc_5 _) (lc1 := [some (.ref b), some (.ref (ad G 9 0 0)), some (.ref (ad G 10 0 0)), some (.int (x3 + 5))]) rfl ?_
    refine v_goto C dL_law_874 (tgt := 18) (by decide) ?_
    refine v_mask [true, true, true, true] (lc' := [some (.ref b), some (.ref (ad G 9 0 0)), some (.ref (ad G 10 0 0)), some (.int (x3 + 5))]) rfl ?_
    exact hrec1 _ _ h
