/-! THE LAW'S BODY, by program (wip/p28/law.py) -/
def dc_law (L : Nat) (xs : Nat → Int32) (σ : Sto) : Option Sto :=
  (if inb (4 : Int32) 9 then wh1 (fun (rec1 : Int32 → Sto → Option Sto) (x3 : Int32) (σ2 : Sto) => (if (3 : Int32) ≤ x3 then wh1 (fun (rec4 : Int32 → Sto → Option Sto) (x6 : Int32) (σ5 : Sto) => (if (4 : Int32) ≤ x6 then (if inb (1 : Int32) 9 then wh1 (fun (rec7 : Int32 → Sto → Option Sto) (x9 : Int32) (σ8 : Sto) => (if (62 : Int32) ≤ x9 then some σ8 else (if 0 ≤ x9.toInt then (bd (dc_L_low ((cel L xs x9) >>> ((25 : Int32) &&& 31)) (11 : Int32) σ8) fun r10 σ11 => jn (fun (v12 : Int32) (σ13 : Sto) => (if v12 = 0 then none else (bd (dc_L_areLoans  σ13) fun r15 σ16 => (if r15 = 0 then none else (bd (dc_L_areNotes  σ16) fun r17 σ18 => (if r17 = 0 then none else rec7 (x9 + 1) σ18)))))) (fun k14 => (if r10 = (0 : Int32) then (bd (dc_L_isFunded (cel L xs x9) σ11) fun r19 σ20 => k14 r19 σ20) else (if r10 = (1 : Int32) then (bd (dc_L_isFunded (cel L xs x9) σ11) fun r22 σ23 => k14 r22 σ23) else (if r10 = (2 : Int32) then (bd (dc_L_isFunded (cel L xs x9) σ11) fun r25 σ26 => k14 r25 σ26) else (if r10 = (3 : Int32) then (bd (dc_L_isPaid (cel L xs x9) σ11) fun r28 σ29 => k14 r28 σ29) else (if r10 = (4 : Int32) then (bd (dc_L_isPaid (cel L xs x9) σ11) fun r31 σ32 => k14 r31 σ32) else (if r10 = (5 : Int32) then (bd (dc_L_isPaid (cel L xs x9) σ11) fun r34 σ35 => k14 r34 σ35) else (if r10 = (6 : Int32) then (bd (dc_L_isSold (cel L xs x9) σ11) fun r37 σ38 => k14 r37 σ38) else (if r10 = (7 : Int32) then (bd (dc_L_isMoved (cel L xs x9) σ11) fun r40 σ41 => k14 r40 σ41) else (if r10 = (8 : Int32) then (bd (dc_L_isGiven (cel L xs x9) σ11) fun r43 σ44 => k14 r43 σ44) else (bd (dc_L_low ((cel L xs x9) >>> ((6 : Int32) &&& 31)) (4 : Int32) σ11) fun r46 σ47 => (if r46 = 0 then (bd (dc_L_low (cel L xs x9) (24 : Int32) σ47) fun r52 σ53 => (bd (dc_L_isPassed ((1 : Int32) + r52) σ53) fun r54 σ55 => k14 r54 σ55)) else (bd (dc_L_low (cel L xs x9) (2 : Int32) σ47) fun r48 σ49 => (bd (dc_L_isPassed ((1 : Int32) + r48) σ49) fun r50 σ51 => k14 r50 σ51))))))))))))))) else none))) FU (7 : Int32) (up σ5 304 0 (1 : Int32).toNatClampNeg (4 : Int32)) else none) else (if 0 ≤ ((3 : Int32) + x6).toInt then (bd (dc_L_low (cel L xs ((3 : Int32) + x6)) (900 : Int32) σ5) fun r56 σ57 => (if inb ((11 : Int32) * x6) 44 then (bd (dc_L_low ((cel L xs ((3 : Int32) + x6)) >>> ((11 : Int32) &&& 31)) (51 : Int32) (up σ57 336 0 ((11 : Int32) * x6).toNatClampNeg ((100 : Int32) + r56))) fun r58 σ59 => (if inb (((11 : Int32) * x6) + (1 : Int32)) 44 then (bd (dc_L_low ((cel L xs ((3 : Int32) + x6)) >>> ((18 : Int32) &&& 31)) (36 : Int32) (up σ59 336 0 (((11 : Int32) * x6) + (1 : Int32)).toNatClampNeg r58)) fun r60 σ61 => (if inb (((11 : Int32) * x6) + (2 : Int32)) 44 then (if inb (((11 : Int32) * x6) + (5 : Int32)) 44 then (lt (up (up σ61 336 0 (((11 : Int32) * x6) + (2 : Int32)).toNatClampNeg ((1 : Int32) + r60)) 336 0 (((11 : Int32) * x6) + (5 : Int32)).toNatClampNeg (-5 : Int32)) fun σ62 => (if inb (((11 : Int32) * x6) + (10 : Int32)) 44 then (if inb ((11 : Int32) * x6) 44 then (if inb (((11 : Int32) * x6) + (1 : Int32)) 44 then (if inb (((11 : Int32) * x6) + (2 : Int32)) 44 then (bd (dc_X9_openLoan ((up σ62 336 0 (((11 : Int32) * x6) + (10 : Int32)).toNatClampNeg (-5 : Int32)).1 336 0 ((11 : Int32) * x6).toNatClampNeg) ((up σ62 336 0 (((11 : Int32) * x6) + (10 : Int32)).toNatClampNeg (-5 : Int32)).1 336 0 (((11 : Int32) * x6) + (1 : Int32)).toNatClampNeg) ((up σ62 336 0 (((11 : Int32) * x6) + (10 : Int32)).toNatClampNeg (-5 : Int32)).1 336 0 (((11 : Int32) * x6) + (2 : Int32)).toNatClampNeg) (up σ62 336 0 (((11 : Int32) * x6) + (10 : Int32)).toNatClampNeg (-5 : Int32))) fun r63 σ64 => (if r63 = x6 then (bd (dc_X9_openLoan (99 : Int32) (0 : Int32) (1 : Int32) σ64) fun r65 σ66 => (if r65 = (-2 : Int32) then rec4 (x6 + 1) σ66 else none)) else none)) else none) else none) else none) else none)) else none) else none)) else none)) else none)) else none))) FU (0 : Int32) σ2 else (if 0 ≤ x3.toInt then (bd (dc_L_low (cel L xs x3) (4000 : Int32) σ2) fun r67 σ68 => (if inb ((3 : Int32) * x3) 9 then (if inb ((3 : Int32) * x3) 9 then (bd (dc_X9_addInvestor ((up σ68 320 0 ((3 : Int32) * x3).toNatClampNeg r67).1 320 0 ((3 : Int32) * x3).toNatClampNeg) (up σ68 320 0 ((3 : Int32) * x3).toNatClampNeg r67)) fun r69 σ70 => (if r69 = x3 then (bd (dc_X9_addInvestor (-1 : Int32) σ70) fun r71 σ72 => (if r71 = (-2 : Int32) then rec1 (x3 + 1) σ72 else none)) else none)) else none) else none)) else none))) FU (0 : Int32) (up σ 304 0 (4 : Int32).toNatClampNeg (5 : Int32)) else none)
set_option maxRecDepth 20000 in
set_option maxHeartbeats 40000000 in
theorem s_law {X : Cx} {G : Gm} {mc ms : Nat} {Q : State → Prop} {b L : Nat} {xs : Nat → Int32} (hL : L ≤ 260) (C : Gd X G cL_law RL 11 7 (some .boolean) mc ms) (hX : va_X b L xs (cxS X) (cxS X).heap) (hbl : b < (cxS X).heap.size) (hbA : ¬ AG G b) (hend : ∀ (τ : Sto) (lc : List (Option Value)), V X G mc ms Q τ 516 lc [.int 1]) {σ τ : Sto} (h : dc_law L xs σ = some τ) : V X G mc ms Q σ 42 [some (.ref b), some (.ref (ad G 9 0 0)), some (.ref (ad G 19 0 0)), some (.ref (ad G 20 0 0)), some (.ref (ad G 21 0 0)), some (.ref (ad G 22 0 0)), some (.ref (ad G 23 0 0)), some (.ref (ad G 24 0 0)), none, none, none] [] := by
  unfold dc_law at h
  refine v_aload_n C dL_law_42 rfl rfl ?_
  refine v_iconst C dL_law_43 ki_4 ?_
  refine v_iconst C dL_law_44 ki_5 ?_
  refine as_19 C dL_law_45 h (fun h => ?_)
  refine v_iconst C dL_law_46 ki_0 ?_
  refine v_istore C dL_law_47 (Nat.le_of_ble_eq_true rfl) (lc1 := [some (.ref b), some (.ref (ad G 9 0 0)), some (.ref (ad G 19 0 0)), some (.ref (ad G 20 0 0)), some (.ref (ad G 21 0 0)), some (.ref (ad G 22 0 0)), some (.ref (ad G 23 0 0)), some (.ref (ad G 24 0 0)), some (.int (0 : Int32)), none, none]) rfl ?_
  refine v_loop1 (fun x3 σ2 => V X G mc ms Q σ2 49 [some (.ref b), some (.ref (ad G 9 0 0)), some (.ref (ad G 19 0 0)), some (.ref (ad G 20 0 0)), some (.ref (ad G 21 0 0)), some (.ref (ad G 22 0 0)), some (.ref (ad G 23 0 0)), some (.ref (ad G 24 0 0)), some (.int x3), none, none] []) (fun rec1 hrec1 x3 σ2 h => ?_) h
  refine v_iload C dL_law_49 rfl ?_
  refine v_iconst C dL_law_51 ki_3 ?_
  refine v_icmp_ge C dL_law_52 (tgt := 106) (by decide) h (fun h => ?_) (fun h => ?_)
  · refine v_iconst C dL_law_106 ki_0 ?_
    refine v_istore C dL_law_107 (Nat.le_of_ble_eq_true rfl) (lc1 := [some (.ref b), some (.ref (ad G 9 0 0)), some (.ref (ad G 19 0 0)), some (.ref (ad G 20 0 0)), some (.ref (ad G 21 0 0)), some (.ref (ad G 22 0 0)), some (.ref (ad G 23 0 0)), some (.ref (ad G 24 0 0)), some (.int (0 : Int32)), none, none]) rfl ?_
    refine v_loop1 (fun x6 σ5 => V X G mc ms Q σ5 109 [some (.ref b), some (.ref (ad G 9 0 0)), some (.ref (ad G 19 0 0)), some (.ref (ad G 20 0 0)), some (.ref (ad G 21 0 0)), some (.ref (ad G 22 0 0)), some (.ref (ad G 23 0 0)), some (.ref (ad G 24 0 0)), some (.int x6), none, none] []) (fun rec4 hrec4 x6 σ5 h => ?_) h
    refine v_iload C dL_law_109 rfl ?_
    refine v_iconst C dL_law_111 ki_4 ?_
    refine v_icmp_ge C dL_law_112 (tgt := 269) (by decide) h (fun h => ?_) (fun h => ?_)
    · refine v_aload_n C dL_law_269 rfl rfl ?_
      refine v_iconst C dL_law_270 ki_1 ?_
      refine v_iconst C dL_law_271 ki_4 ?_
      refine as_19 C dL_law_272 h (fun h => ?_)
      refine v_bipush C dL_law_273 kb_7 ?_
      refine v_istore C dL_law_275 (Nat.le_of_ble_eq_true rfl) (lc1 := [some (.ref b), some (.ref (ad G 9 0 0)), some (.ref (ad G 19 0 0)), some (.ref (ad G 20 0 0)), some (.ref (ad G 21 0 0)), some (.ref (ad G 22 0 0)), some (.ref (ad G 23 0 0)), some (.ref (ad G 24 0 0)), some (.int (7 : Int32)), none, none]) rfl ?_
      refine v_loop1 (fun x9 σ8 => V X G mc ms Q σ8 277 [some (.ref b), some (.ref (ad G 9 0 0)), some (.ref (ad G 19 0 0)), some (.ref (ad G 20 0 0)), some (.ref (ad G 21 0 0)), some (.ref (ad G 22 0 0)), some (.ref (ad G 23 0 0)), some (.ref (ad G 24 0 0)), some (.int x9), none, none] []) (fun rec7 hrec7 x9 σ8 h => ?_) h
      refine v_iload C dL_law_277 rfl ?_
      refine v_bipush C dL_law_279 kb_62 ?_
      refine v_icmp_ge C dL_law_281 (tgt := 515) (by decide) h (fun h => ?_) (fun h => ?_)
      · refine v_iconst C dL_law_515 ki_1 ?_
        exact hend _ _
      · refine v_aload_n C dL_law_284 rfl rfl ?_
        refine v_iload C dL_law_285 rfl ?_
        refine v_cell C hL hX hbl hbA (st := []) lk_L_93 rfl (Nat.le_of_ble_eq_true rfl) dL_law_287 h (fun h => ?_)
        refine v_istore C dL_law_290 (Nat.le_of_ble_eq_true rfl) (lc1 := [some (.ref b), some (.ref (ad G 9 0 0)), some (.ref (ad G 19 0 0)), some (.ref (ad G 20 0 0)), some (.ref (ad G 21 0 0)), some (.ref (ad G 22 0 0)), some (.ref (ad G 23 0 0)), some (.ref (ad G 24 0 0)), some (.int x9), some (.int (cel L xs x9)), none]) rfl ?_
        refine v_iload C dL_law_292 rfl ?_
        refine v_bipush C dL_law_294 kb_25 ?_
        refine v_ishr C dL_law_296 ?_
        refine v_bipush C dL_law_297 kb_11 ?_
        refine cSi C (av := [.int ((cel L xs x9) >>> ((25 : Int32) &&& 31)), .int (11 : Int32)]) si_L_low lk_L_41 rfl rfl (st := []) rfl (Nat.le_of_ble_eq_true rfl) dL_law_299 h (fun _ _ hc => s_L_low (d := 6) ((cel L xs x9) >>> ((25 : Int32) &&& 31)) (11 : Int32)  hc) (fun r10 σ11 h => ?_)
        refine v_join (fun k => ∀ (v12 : Int32) (σ13 : Sto), k v12 σ13 = some τ → V X G mc ms Q σ13 477 [some (.ref b), some (.ref (ad G 9 0 0)), some (.ref (ad G 19 0 0)), some (.ref (ad G 20 0 0)), some (.ref (ad G 21 0 0)), some (.ref (ad G 22 0 0)), some (.ref (ad G 23 0 0)), some (.ref (ad G 24 0 0)), some (.int x9), some (.int (cel L xs x9)), some (.int v12)] []) h (fun v12 σ13 h => ?_) (fun k14 hk14 h => ?_)
        · refine v_iload C dL_law_477 rfl ?_
          refine v_if_eq C dL_law_479 (tgt := 507) (by decide) h (fun h => ?_) (fun h => ?_)
          · cases h
          · refine v_aload_n C dL_law_482 rfl rfl ?_
            refine v_aload_n C dL_law_483 rfl rfl ?_
            refine v_aload C dL_law_484 rfl ?_
            refine v_aload C dL_law_486 rfl ?_
            refine cSi C (av := [.ref (ad G 9 0 0), .ref (ad G 19 0 0), .ref (ad G 21 0 0), .ref (ad G 22 0 0)]) si_L_areLoans lk_L_124 rfl rfl (st := []) rfl (Nat.le_of_ble_eq_true rfl) dL_law_488 h (fun _ _ hc => s_L_areLoans (d := 3)   hc) (fun r15 σ16 h => ?_)
            refine v_if_eq C dL_law_491 (tgt := 507) (by decide) h (fun h => ?_) (fun h => ?_)
            · cases h
            · refine v_aload_n C dL_law_494 rfl rfl ?_
              refine v_aload_n C dL_law_495 rfl rfl ?_
              refine v_aload_n C dL_law_496 rfl rfl ?_
              refine v_aload C dL_law_497 rfl ?_
              refine v_aload C dL_law_499 rfl ?_
              refine cSi C (av := [.ref (ad G 9 0 0), .ref (ad G 19 0 0), .ref (ad G 20 0 0), .ref (ad G 22 0 0), .ref (ad G 23 0 0)]) si_L_areNotes lk_L_128 rfl rfl (st := []) rfl (Nat.le_of_ble_eq_true rfl) dL_law_501 h (fun _ _ hc => s_L_areNotes (d := 2)   hc) (fun r17 σ18 h => ?_)
              refine v_if_ne C dL_law_504 (tgt := 509) (by decide) h (fun h => ?_) (fun h => ?_)
              · refine v_iinc C dL_law_509 rfl (kc_1 _) (lc1 := [some (.ref b), some (.ref (ad G 9 0 0)), some (.ref (ad G 19 0 0)), some (.ref (ad G 20 0 0)), some (.ref (ad G 21 0 0)), some (.ref (ad G 22 0 0)), some (.ref (ad G 23 0 0)), some (.ref (ad G 24 0 0)), some (.int (x9 + 1)), some (.int (cel L xs x9)), some (.int v12)]) rfl ?_
                refine v_goto C dL_law_512 (tgt := 277) (by decide) ?_
                refine v_mask [true, true, true, true, true, true, true, true, true, false, false] (lc' := [some (.ref b), some (.ref (ad G 9 0 0)), some (.ref (ad G 19 0 0)), some (.ref (ad G 20 0 0)), some (.ref (ad G 21 0 0)), some (.ref (ad G 22 0 0)), some (.ref (ad G 23 0 0)), some (.ref (ad G 24 0 0)), some (.int (x9 + 1)), none, none]) rfl ?_
                exact hrec7 _ _ h
              · cases h
        · refine v_tcase h (fun hc21 h => ?_) (fun hc21 h => ?_)
          · refine v_tin C dL_law_302 (tgt := 352) (by rw [hc21]; decide) (by rw [hc21]; decide) (by rw [hc21]; exact rfl) (by decide) ?_
            refine v_aload_n C dL_law_352 rfl rfl ?_
            refine v_aload_n C dL_law_353 rfl rfl ?_
            refine v_aload_n C dL_law_354 rfl rfl ?_
            refine v_aload C dL_law_355 rfl ?_
            refine v_aload C dL_law_357 rfl ?_
            refine v_aload C dL_law_359 rfl ?_
            refine v_iload C dL_law_361 rfl ?_
            refine cSi C (av := [.ref (ad G 9 0 0), .ref (ad G 19 0 0), .ref (ad G 20 0 0), .ref (ad G 21 0 0), .ref (ad G 22 0 0), .ref (ad G 23 0 0), .int (cel L xs x9)]) si_L_isFunded lk_L_103 rfl rfl (st := []) rfl (Nat.le_of_ble_eq_true rfl) dL_law_363 h (fun _ _ hc => s_L_isFunded (d := 1) (cel L xs x9)  hc) (fun r19 σ20 h => ?_)
            refine v_istore C dL_law_366 (Nat.le_of_ble_eq_true rfl) (lc1 := [some (.ref b), some (.ref (ad G 9 0 0)), some (.ref (ad G 19 0 0)), some (.ref (ad G 20 0 0)), some (.ref (ad G 21 0 0)), some (.ref (ad G 22 0 0)), some (.ref (ad G 23 0 0)), some (.ref (ad G 24 0 0)), some (.int x9), some (.int (cel L xs x9)), some (.int r19)]) rfl ?_
            refine v_goto C dL_law_368 (tgt := 477) (by decide) ?_
            refine v_mask [true, true, true, true, true, true, true, true, true, true, true] (lc' := [some (.ref b), some (.ref (ad G 9 0 0)), some (.ref (ad G 19 0 0)), some (.ref (ad G 20 0 0)), some (.ref (ad G 21 0 0)), some (.ref (ad G 22 0 0)), some (.ref (ad G 23 0 0)), some (.ref (ad G 24 0 0)), some (.int x9), some (.int (cel L xs x9)), some (.int r19)]) rfl ?_
            exact hk14 _ _ h
          refine v_tcase h (fun hc24 h => ?_) (fun hc24 h => ?_)
          · refine v_tin C dL_law_302 (tgt := 352) (by rw [hc24]; decide) (by rw [hc24]; decide) (by rw [hc24]; exact rfl) (by decide) ?_
            refine v_aload_n C dL_law_352 rfl rfl ?_
            refine v_aload_n C dL_law_353 rfl rfl ?_
            refine v_aload_n C dL_law_354 rfl rfl ?_
            refine v_aload C dL_law_355 rfl ?_
            refine v_aload C dL_law_357 rfl ?_
            refine v_aload C dL_law_359 rfl ?_
            refine v_iload C dL_law_361 rfl ?_
            refine cSi C (av := [.ref (ad G 9 0 0), .ref (ad G 19 0 0), .ref (ad G 20 0 0), .ref (ad G 21 0 0), .ref (ad G 22 0 0), .ref (ad G 23 0 0), .int (cel L xs x9)]) si_L_isFunded lk_L_103 rfl rfl (st := []) rfl (Nat.le_of_ble_eq_true rfl) dL_law_363 h (fun _ _ hc => s_L_isFunded (d := 1) (cel L xs x9)  hc) (fun r22 σ23 h => ?_)
            refine v_istore C dL_law_366 (Nat.le_of_ble_eq_true rfl) (lc1 := [some (.ref b), some (.ref (ad G 9 0 0)), some (.ref (ad G 19 0 0)), some (.ref (ad G 20 0 0)), some (.ref (ad G 21 0 0)), some (.ref (ad G 22 0 0)), some (.ref (ad G 23 0 0)), some (.ref (ad G 24 0 0)), some (.int x9), some (.int (cel L xs x9)), some (.int r22)]) rfl ?_
            refine v_goto C dL_law_368 (tgt := 477) (by decide) ?_
            refine v_mask [true, true, true, true, true, true, true, true, true, true, true] (lc' := [some (.ref b), some (.ref (ad G 9 0 0)), some (.ref (ad G 19 0 0)), some (.ref (ad G 20 0 0)), some (.ref (ad G 21 0 0)), some (.ref (ad G 22 0 0)), some (.ref (ad G 23 0 0)), some (.ref (ad G 24 0 0)), some (.int x9), some (.int (cel L xs x9)), some (.int r22)]) rfl ?_
            exact hk14 _ _ h
          refine v_tcase h (fun hc27 h => ?_) (fun hc27 h => ?_)
          · refine v_tin C dL_law_302 (tgt := 352) (by rw [hc27]; decide) (by rw [hc27]; decide) (by rw [hc27]; exact rfl) (by decide) ?_
            refine v_aload_n C dL_law_352 rfl rfl ?_
            refine v_aload_n C dL_law_353 rfl rfl ?_
            refine v_aload_n C dL_law_354 rfl rfl ?_
            refine v_aload C dL_law_355 rfl ?_
            refine v_aload C dL_law_357 rfl ?_
            refine v_aload C dL_law_359 rfl ?_
            refine v_iload C dL_law_361 rfl ?_
            refine cSi C (av := [.ref (ad G 9 0 0), .ref (ad G 19 0 0), .ref (ad G 20 0 0), .ref (ad G 21 0 0), .ref (ad G 22 0 0), .ref (ad G 23 0 0), .int (cel L xs x9)]) si_L_isFunded lk_L_103 rfl rfl (st := []) rfl (Nat.le_of_ble_eq_true rfl) dL_law_363 h (fun _ _ hc => s_L_isFunded (d := 1) (cel L xs x9)  hc) (fun r25 σ26 h => ?_)
            refine v_istore C dL_law_366 (Nat.le_of_ble_eq_true rfl) (lc1 := [some (.ref b), some (.ref (ad G 9 0 0)), some (.ref (ad G 19 0 0)), some (.ref (ad G 20 0 0)), some (.ref (ad G 21 0 0)), some (.ref (ad G 22 0 0)), some (.ref (ad G 23 0 0)), some (.ref (ad G 24 0 0)), some (.int x9), some (.int (cel L xs x9)), some (.int r25)]) rfl ?_
            refine v_goto C dL_law_368 (tgt := 477) (by decide) ?_
            refine v_mask [true, true, true, true, true, true, true, true, true, true, true] (lc' := [some (.ref b), some (.ref (ad G 9 0 0)), some (.ref (ad G 19 0 0)), some (.ref (ad G 20 0 0)), some (.ref (ad G 21 0 0)), some (.ref (ad G 22 0 0)), some (.ref (ad G 23 0 0)), some (.ref (ad G 24 0 0)), some (.int x9), some (.int (cel L xs x9)), some (.int r25)]) rfl ?_
            exact hk14 _ _ h
          refine v_tcase h (fun hc30 h => ?_) (fun hc30 h => ?_)
          · refine v_tin C dL_law_302 (tgt := 371) (by rw [hc30]; decide) (by rw [hc30]; decide) (by rw [hc30]; exact rfl) (by decide) ?_
            refine v_aload_n C dL_law_371 rfl rfl ?_
            refine v_aload_n C dL_law_372 rfl rfl ?_
            refine v_aload_n C dL_law_373 rfl rfl ?_
            refine v_aload C dL_law_374 rfl ?_
            refine v_aload C dL_law_376 rfl ?_
            refine v_aload C dL_law_378 rfl ?_
            refine v_iload C dL_law_380 rfl ?_
            refine cSi C (av := [.ref (ad G 9 0 0), .ref (ad G 19 0 0), .ref (ad G 20 0 0), .ref (ad G 21 0 0), .ref (ad G 22 0 0), .ref (ad G 24 0 0), .int (cel L xs x9)]) si_L_isPaid lk_L_107 rfl rfl (st := []) rfl (Nat.le_of_ble_eq_true rfl) dL_law_382 h (fun _ _ hc => s_L_isPaid (d := 2) (cel L xs x9)  hc) (fun r28 σ29 h => ?_)
            refine v_istore C dL_law_385 (Nat.le_of_ble_eq_true rfl) (lc1 := [some (.ref b), some (.ref (ad G 9 0 0)), some (.ref (ad G 19 0 0)), some (.ref (ad G 20 0 0)), some (.ref (ad G 21 0 0)), some (.ref (ad G 22 0 0)), some (.ref (ad G 23 0 0)), some (.ref (ad G 24 0 0)), some (.int x9), some (.int (cel L xs x9)), some (.int r28)]) rfl ?_
            refine v_goto C dL_law_387 (tgt := 477) (by decide) ?_
            refine v_mask [true, true, true, true, true, true, true, true, true, true, true] (lc' := [some (.ref b), some (.ref (ad G 9 0 0)), some (.ref (ad G 19 0 0)), some (.ref (ad G 20 0 0)), some (.ref (ad G 21 0 0)), some (.ref (ad G 22 0 0)), some (.ref (ad G 23 0 0)), some (.ref (ad G 24 0 0)), some (.int x9), some (.int (cel L xs x9)), some (.int r28)]) rfl ?_
            exact hk14 _ _ h
          refine v_tcase h (fun hc33 h => ?_) (fun hc33 h => ?_)
          · refine v_tin C dL_law_302 (tgt := 371) (by rw [hc33]; decide) (by rw [hc33]; decide) (by rw [hc33]; exact rfl) (by decide) ?_
            refine v_aload_n C dL_law_371 rfl rfl ?_
            refine v_aload_n C dL_law_372 rfl rfl ?_
            refine v_aload_n C dL_law_373 rfl rfl ?_
            refine v_aload C dL_law_374 rfl ?_
            refine v_aload C dL_law_376 rfl ?_
            refine v_aload C dL_law_378 rfl ?_
            refine v_iload C dL_law_380 rfl ?_
            refine cSi C (av := [.ref (ad G 9 0 0), .ref (ad G 19 0 0), .ref (ad G 20 0 0), .ref (ad G 21 0 0), .ref (ad G 22 0 0), .ref (ad G 24 0 0), .int (cel L xs x9)]) si_L_isPaid lk_L_107 rfl rfl (st := []) rfl (Nat.le_of_ble_eq_true rfl) dL_law_382 h (fun _ _ hc => s_L_isPaid (d := 2) (cel L xs x9)  hc) (fun r31 σ32 h => ?_)
            refine v_istore C dL_law_385 (Nat.le_of_ble_eq_true rfl) (lc1 := [some (.ref b), some (.ref (ad G 9 0 0)), some (.ref (ad G 19 0 0)), some (.ref (ad G 20 0 0)), some (.ref (ad G 21 0 0)), some (.ref (ad G 22 0 0)), some (.ref (ad G 23 0 0)), some (.ref (ad G 24 0 0)), some (.int x9), some (.int (cel L xs x9)), some (.int r31)]) rfl ?_
            refine v_goto C dL_law_387 (tgt := 477) (by decide) ?_
            refine v_mask [true, true, true, true, true, true, true, true, true, true, true] (lc' := [some (.ref b), some (.ref (ad G 9 0 0)), some (.ref (ad G 19 0 0)), some (.ref (ad G 20 0 0)), some (.ref (ad G 21 0 0)), some (.ref (ad G 22 0 0)), some (.ref (ad G 23 0 0)), some (.ref (ad G 24 0 0)), some (.int x9), some (.int (cel L xs x9)), some (.int r31)]) rfl ?_
            exact hk14 _ _ h
          refine v_tcase h (fun hc36 h => ?_) (fun hc36 h => ?_)
          · refine v_tin C dL_law_302 (tgt := 371) (by rw [hc36]; decide) (by rw [hc36]; decide) (by rw [hc36]; exact rfl) (by decide) ?_
            refine v_aload_n C dL_law_371 rfl rfl ?_
            refine v_aload_n C dL_law_372 rfl rfl ?_
            refine v_aload_n C dL_law_373 rfl rfl ?_
            refine v_aload C dL_law_374 rfl ?_
            refine v_aload C dL_law_376 rfl ?_
            refine v_aload C dL_law_378 rfl ?_
            refine v_iload C dL_law_380 rfl ?_
            refine cSi C (av := [.ref (ad G 9 0 0), .ref (ad G 19 0 0), .ref (ad G 20 0 0), .ref (ad G 21 0 0), .ref (ad G 22 0 0), .ref (ad G 24 0 0), .int (cel L xs x9)]) si_L_isPaid lk_L_107 rfl rfl (st := []) rfl (Nat.le_of_ble_eq_true rfl) dL_law_382 h (fun _ _ hc => s_L_isPaid (d := 2) (cel L xs x9)  hc) (fun r34 σ35 h => ?_)
            refine v_istore C dL_law_385 (Nat.le_of_ble_eq_true rfl) (lc1 := [some (.ref b), some (.ref (ad G 9 0 0)), some (.ref (ad G 19 0 0)), some (.ref (ad G 20 0 0)), some (.ref (ad G 21 0 0)), some (.ref (ad G 22 0 0)), some (.ref (ad G 23 0 0)), some (.ref (ad G 24 0 0)), some (.int x9), some (.int (cel L xs x9)), some (.int r34)]) rfl ?_
            refine v_goto C dL_law_387 (tgt := 477) (by decide) ?_
            refine v_mask [true, true, true, true, true, true, true, true, true, true, true] (lc' := [some (.ref b), some (.ref (ad G 9 0 0)), some (.ref (ad G 19 0 0)), some (.ref (ad G 20 0 0)), some (.ref (ad G 21 0 0)), some (.ref (ad G 22 0 0)), some (.ref (ad G 23 0 0)), some (.ref (ad G 24 0 0)), some (.int x9), some (.int (cel L xs x9)), some (.int r34)]) rfl ?_
            exact hk14 _ _ h
          refine v_tcase h (fun hc39 h => ?_) (fun hc39 h => ?_)
          · refine v_tin C dL_law_302 (tgt := 390) (by rw [hc39]; decide) (by rw [hc39]; decide) (by rw [hc39]; exact rfl) (by decide) ?_
            refine v_aload_n C dL_law_390 rfl rfl ?_
            refine v_aload_n C dL_law_391 rfl rfl ?_
            refine v_aload_n C dL_law_392 rfl rfl ?_
            refine v_aload C dL_law_393 rfl ?_
            refine v_aload C dL_law_395 rfl ?_
            refine v_aload C dL_law_397 rfl ?_
            refine v_iload C dL_law_399 rfl ?_
            refine cSi C (av := [.ref (ad G 9 0 0), .ref (ad G 19 0 0), .ref (ad G 20 0 0), .ref (ad G 21 0 0), .ref (ad G 22 0 0), .ref (ad G 24 0 0), .int (cel L xs x9)]) si_L_isSold lk_L_110 rfl rfl (st := []) rfl (Nat.le_of_ble_eq_true rfl) dL_law_401 h (fun _ _ hc => s_L_isSold (d := 2) (cel L xs x9)  hc) (fun r37 σ38 h => ?_)
            refine v_istore C dL_law_404 (Nat.le_of_ble_eq_true rfl) (lc1 := [some (.ref b), some (.ref (ad G 9 0 0)), some (.ref (ad G 19 0 0)), some (.ref (ad G 20 0 0)), some (.ref (ad G 21 0 0)), some (.ref (ad G 22 0 0)), some (.ref (ad G 23 0 0)), some (.ref (ad G 24 0 0)), some (.int x9), some (.int (cel L xs x9)), some (.int r37)]) rfl ?_
            refine v_goto C dL_law_406 (tgt := 477) (by decide) ?_
            refine v_mask [true, true, true, true, true, true, true, true, true, true, true] (lc' := [some (.ref b), some (.ref (ad G 9 0 0)), some (.ref (ad G 19 0 0)), some (.ref (ad G 20 0 0)), some (.ref (ad G 21 0 0)), some (.ref (ad G 22 0 0)), some (.ref (ad G 23 0 0)), some (.ref (ad G 24 0 0)), some (.int x9), some (.int (cel L xs x9)), some (.int r37)]) rfl ?_
            exact hk14 _ _ h
          refine v_tcase h (fun hc42 h => ?_) (fun hc42 h => ?_)
          · refine v_tin C dL_law_302 (tgt := 409) (by rw [hc42]; decide) (by rw [hc42]; decide) (by rw [hc42]; exact rfl) (by decide) ?_
            refine v_aload_n C dL_law_409 rfl rfl ?_
            refine v_aload_n C dL_law_410 rfl rfl ?_
            refine v_aload_n C dL_law_411 rfl rfl ?_
            refine v_aload C dL_law_412 rfl ?_
            refine v_aload C dL_law_414 rfl ?_
            refine v_iload C dL_law_416 rfl ?_
            refine cSi C (av := [.ref (ad G 9 0 0), .ref (ad G 19 0 0), .ref (ad G 20 0 0), .ref (ad G 21 0 0), .ref (ad G 22 0 0), .int (cel L xs x9)]) si_L_isMoved lk_L_113 rfl rfl (st := []) rfl (Nat.le_of_ble_eq_true rfl) dL_law_418 h (fun _ _ hc => s_L_isMoved (d := 2) (cel L xs x9)  hc) (fun r40 σ41 h => ?_)
            refine v_istore C dL_law_421 (Nat.le_of_ble_eq_true rfl) (lc1 := [some (.ref b), some (.ref (ad G 9 0 0)), some (.ref (ad G 19 0 0)), some (.ref (ad G 20 0 0)), some (.ref (ad G 21 0 0)), some (.ref (ad G 22 0 0)), some (.ref (ad G 23 0 0)), some (.ref (ad G 24 0 0)), some (.int x9), some (.int (cel L xs x9)), some (.int r40)]) rfl ?_
            refine v_goto C dL_law_423 (tgt := 477) (by decide) ?_
            refine v_mask [true, true, true, true, true, true, true, true, true, true, true] (lc' := [some (.ref b), some (.ref (ad G 9 0 0)), some (.ref (ad G 19 0 0)), some (.ref (ad G 20 0 0)), some (.ref (ad G 21 0 0)), some (.ref (ad G 22 0 0)), some (.ref (ad G 23 0 0)), some (.ref (ad G 24 0 0)), some (.int x9), some (.int (cel L xs x9)), some (.int r40)]) rfl ?_
            exact hk14 _ _ h
          refine v_tcase h (fun hc45 h => ?_) (fun hc45 h => ?_)
          · refine v_tin C dL_law_302 (tgt := 426) (by rw [hc45]; decide) (by rw [hc45]; decide) (by rw [hc45]; exact rfl) (by decide) ?_
            refine v_aload_n C dL_law_426 rfl rfl ?_
            refine v_aload_n C dL_law_427 rfl rfl ?_
            refine v_aload_n C dL_law_428 rfl rfl ?_
            refine v_aload C dL_law_429 rfl ?_
            refine v_aload C dL_law_431 rfl ?_
            refine v_iload C dL_law_433 rfl ?_
            refine cSi C (av := [.ref (ad G 9 0 0), .ref (ad G 19 0 0), .ref (ad G 20 0 0), .ref (ad G 21 0 0), .ref (ad G 22 0 0), .int (cel L xs x9)]) si_L_isGiven lk_L_117 rfl rfl (st := []) rfl (Nat.le_of_ble_eq_true rfl) dL_law_435 h (fun _ _ hc => s_L_isGiven (d := 2) (cel L xs x9)  hc) (fun r43 σ44 h => ?_)
            refine v_istore C dL_law_438 (Nat.le_of_ble_eq_true rfl) (lc1 := [some (.ref b), some (.ref (ad G 9 0 0)), some (.ref (ad G 19 0 0)), some (.ref (ad G 20 0 0)), some (.ref (ad G 21 0 0)), some (.ref (ad G 22 0 0)), some (.ref (ad G 23 0 0)), some (.ref (ad G 24 0 0)), some (.int x9), some (.int (cel L xs x9)), some (.int r43)]) rfl ?_
            refine v_goto C dL_law_440 (tgt := 477) (by decide) ?_
            refine v_mask [true, true, true, true, true, true, true, true, true, true, true] (lc' := [some (.ref b), some (.ref (ad G 9 0 0)), some (.ref (ad G 19 0 0)), some (.ref (ad G 20 0 0)), some (.ref (ad G 21 0 0)), some (.ref (ad G 22 0 0)), some (.ref (ad G 23 0 0)), some (.ref (ad G 24 0 0)), some (.int x9), some (.int (cel L xs x9)), some (.int r43)]) rfl ?_
            exact hk14 _ _ h
          have hc21t := tne hc21 (a := 0) (by decide)
          have hc24t := tne hc24 (a := 1) (by decide)
          have hc27t := tne hc27 (a := 2) (by decide)
          have hc30t := tne hc30 (a := 3) (by decide)
          have hc33t := tne hc33 (a := 4) (by decide)
          have hc36t := tne hc36 (a := 5) (by decide)
          have hc39t := tne hc39 (a := 6) (by decide)
          have hc42t := tne hc42 (a := 7) (by decide)
          have hc45t := tne hc45 (a := 8) (by decide)
          refine v_tout C dL_law_302 (tgt := 443) (by omega) (by decide) ?_
          refine v_aload_n C dL_law_443 rfl rfl ?_
          refine v_aload_n C dL_law_444 rfl rfl ?_
          refine v_aload C dL_law_445 rfl ?_
          refine v_iconst C dL_law_447 ki_1 ?_
          refine v_iload C dL_law_448 rfl ?_
          refine v_iload C dL_law_450 rfl ?_
          refine v_bipush C dL_law_452 kb_6 ?_
          refine v_ishr C dL_law_454 ?_
          refine v_iconst C dL_law_455 ki_4 ?_
          refine cSi C (av := [.int ((cel L xs x9) >>> ((6 : Int32) &&& 31)), .int (4 : Int32)]) si_L_low lk_L_41 rfl rfl (st := [.int (cel L xs x9), .int (1 : Int32), .ref (ad G 21 0 0), .ref (ad G 19 0 0), .ref (ad G 9 0 0)]) rfl (Nat.le_of_ble_eq_true rfl) dL_law_456 h (fun _ _ hc => s_L_low (d := 6) ((cel L xs x9) >>> ((6 : Int32) &&& 31)) (4 : Int32)  hc) (fun r46 σ47 h => ?_)
          refine v_if_ne C dL_law_459 (tgt := 467) (by decide) h (fun h => ?_) (fun h => ?_)
          · refine v_iconst C dL_law_467 ki_2 ?_
            refine cSi C (av := [.int (cel L xs x9), .int (2 : Int32)]) si_L_low lk_L_41 rfl rfl (st := [.int (1 : Int32), .ref (ad G 21 0 0), .ref (ad G 19 0 0), .ref (ad G 9 0 0)]) rfl (Nat.le_of_ble_eq_true rfl) dL_law_468 h (fun _ _ hc => s_L_low (d := 6) (cel L xs x9) (2 : Int32)  hc) (fun r48 σ49 h => ?_)
            refine v_iadd C dL_law_471 ?_
            refine cSi C (av := [.ref (ad G 9 0 0), .ref (ad G 19 0 0), .ref (ad G 21 0 0), .int ((1 : Int32) + r48)]) si_L_isPassed lk_L_120 rfl rfl (st := []) rfl (Nat.le_of_ble_eq_true rfl) dL_law_472 h (fun _ _ hc => s_L_isPassed (d := 2) ((1 : Int32) + r48)  hc) (fun r50 σ51 h => ?_)
            refine v_istore C dL_law_475 (Nat.le_of_ble_eq_true rfl) (lc1 := [some (.ref b), some (.ref (ad G 9 0 0)), some (.ref (ad G 19 0 0)), some (.ref (ad G 20 0 0)), some (.ref (ad G 21 0 0)), some (.ref (ad G 22 0 0)), some (.ref (ad G 23 0 0)), some (.ref (ad G 24 0 0)), some (.int x9), some (.int (cel L xs x9)), some (.int r50)]) rfl ?_
            refine v_mask [true, true, true, true, true, true, true, true, true, true, true] (lc' := [some (.ref b), some (.ref (ad G 9 0 0)), some (.ref (ad G 19 0 0)), some (.ref (ad G 20 0 0)), some (.ref (ad G 21 0 0)), some (.ref (ad G 22 0 0)), some (.ref (ad G 23 0 0)), some (.ref (ad G 24 0 0)), some (.int x9), some (.int (cel L xs x9)), some (.int r50)]) rfl ?_
            exact hk14 _ _ h
          · refine v_bipush C dL_law_462 kb_24 ?_
            refine v_goto C dL_law_464 (tgt := 468) (by decide) ?_
            refine cSi C (av := [.int (cel L xs x9), .int (24 : Int32)]) si_L_low lk_L_41 rfl rfl (st := [.int (1 : Int32), .ref (ad G 21 0 0), .ref (ad G 19 0 0), .ref (ad G 9 0 0)]) rfl (Nat.le_of_ble_eq_true rfl) dL_law_468 h (fun _ _ hc => s_L_low (d := 6) (cel L xs x9) (24 : Int32)  hc) (fun r52 σ53 h => ?_)
            refine v_iadd C dL_law_471 ?_
            refine cSi C (av := [.ref (ad G 9 0 0), .ref (ad G 19 0 0), .ref (ad G 21 0 0), .int ((1 : Int32) + r52)]) si_L_isPassed lk_L_120 rfl rfl (st := []) rfl (Nat.le_of_ble_eq_true rfl) dL_law_472 h (fun _ _ hc => s_L_isPassed (d := 2) ((1 : Int32) + r52)  hc) (fun r54 σ55 h => ?_)
            refine v_istore C dL_law_475 (Nat.le_of_ble_eq_true rfl) (lc1 := [some (.ref b), some (.ref (ad G 9 0 0)), some (.ref (ad G 19 0 0)), some (.ref (ad G 20 0 0)), some (.ref (ad G 21 0 0)), some (.ref (ad G 22 0 0)), some (.ref (ad G 23 0 0)), some (.ref (ad G 24 0 0)), some (.int x9), some (.int (cel L xs x9)), some (.int r54)]) rfl ?_
            refine v_mask [true, true, true, true, true, true, true, true, true, true, true] (lc' := [some (.ref b), some (.ref (ad G 9 0 0)), some (.ref (ad G 19 0 0)), some (.ref (ad G 20 0 0)), some (.ref (ad G 21 0 0)), some (.ref (ad G 22 0 0)), some (.ref (ad G 23 0 0)), some (.ref (ad G 24 0 0)), some (.int x9), some (.int (cel L xs x9)), some (.int r54)]) rfl ?_
            exact hk14 _ _ h
    · refine v_aload_n C dL_law_115 rfl rfl ?_
      refine v_iconst C dL_law_116 ki_3 ?_
      refine v_iload C dL_law_117 rfl ?_
      refine v_iadd C dL_law_119 ?_
      refine v_cell C hL hX hbl hbA (st := []) lk_L_93 rfl (Nat.le_of_ble_eq_true rfl) dL_law_120 h (fun h => ?_)
      refine v_istore C dL_law_123 (Nat.le_of_ble_eq_true rfl) (lc1 := [some (.ref b), some (.ref (ad G 9 0 0)), some (.ref (ad G 19 0 0)), some (.ref (ad G 20 0 0)), some (.ref (ad G 21 0 0)), some (.ref (ad G 22 0 0)), some (.ref (ad G 23 0 0)), some (.ref (ad G 24 0 0)), some (.int x6), some (.int (cel L xs ((3 : Int32) + x6))), none]) rfl ?_
      refine v_aload C dL_law_125 rfl ?_
      refine v_bipush C dL_law_127 kb_11 ?_
      refine v_iload C dL_law_129 rfl ?_
      refine v_imul C dL_law_131 ?_
      refine v_bipush C dL_law_132 kb_100 ?_
      refine v_iload C dL_law_134 rfl ?_
      refine v_sipush C dL_law_136 ks_900 ?_
      refine cSi C (av := [.int (cel L xs ((3 : Int32) + x6)), .int (900 : Int32)]) si_L_low lk_L_41 rfl rfl (st := [.int (100 : Int32), .int ((11 : Int32) * x6), .ref (ad G 21 0 0)]) rfl (Nat.le_of_ble_eq_true rfl) dL_law_139 h (fun _ _ hc => s_L_low (d := 6) (cel L xs ((3 : Int32) + x6)) (900 : Int32)  hc) (fun r56 σ57 h => ?_)
      refine v_iadd C dL_law_142 ?_
      refine as_21 C dL_law_143 h (fun h => ?_)
      refine v_aload C dL_law_144 rfl ?_
      refine v_bipush C dL_law_146 kb_11 ?_
      refine v_iload C dL_law_148 rfl ?_
      refine v_imul C dL_law_150 ?_
      refine v_iconst C dL_law_151 ki_1 ?_
      refine v_iadd C dL_law_152 ?_
      refine v_iload C dL_law_153 rfl ?_
      refine v_bipush C dL_law_155 kb_11 ?_
      refine v_ishr C dL_law_157 ?_
      refine v_bipush C dL_law_158 kb_51 ?_
      refine cSi C (av := [.int ((cel L xs ((3 : Int32) + x6)) >>> ((11 : Int32) &&& 31)), .int (51 : Int32)]) si_L_low lk_L_41 rfl rfl (st := [.int (((11 : Int32) * x6) + (1 : Int32)), .ref (ad G 21 0 0)]) rfl (Nat.le_of_ble_eq_true rfl) dL_law_160 h (fun _ _ hc => s_L_low (d := 6) ((cel L xs ((3 : Int32) + x6)) >>> ((11 : Int32) &&& 31)) (51 : Int32)  hc) (fun r58 σ59 h => ?_)
      refine as_21 C dL_law_163 h (fun h => ?_)
      refine v_aload C dL_law_164 rfl ?_
      refine v_bipush C dL_law_166 kb_11 ?_
      refine v_iload C dL_law_168 rfl ?_
      refine v_imul C dL_law_170 ?_
      refine v_iconst C dL_law_171 ki_2 ?_
      refine v_iadd C dL_law_172 ?_
      refine v_iconst C dL_law_173 ki_1 ?_
      refine v_iload C dL_law_174 rfl ?_
      refine v_bipush C dL_law_176 kb_18 ?_
      refine v_ishr C dL_law_178 ?_
      refine v_bipush C dL_law_179 kb_36 ?_
      refine cSi C (av := [.int ((cel L xs ((3 : Int32) + x6)) >>> ((18 : Int32) &&& 31)), .int (36 : Int32)]) si_L_low lk_L_41 rfl rfl (st := [.int (1 : Int32), .int (((11 : Int32) * x6) + (2 : Int32)), .ref (ad G 21 0 0)]) rfl (Nat.le_of_ble_eq_true rfl) dL_law_181 h (fun _ _ hc => s_L_low (d := 6) ((cel L xs ((3 : Int32) + x6)) >>> ((18 : Int32) &&& 31)) (36 : Int32)  hc) (fun r60 σ61 h => ?_)
      refine v_iadd C dL_law_184 ?_
      refine as_21 C dL_law_185 h (fun h => ?_)
      refine v_aload C dL_law_186 rfl ?_
      refine v_bipush C dL_law_188 kb_11 ?_
      refine v_iload C dL_law_190 rfl ?_
      refine v_imul C dL_law_192 ?_
      refine v_iconst C dL_law_193 ki_5 ?_
      refine v_iadd C dL_law_194 ?_
      refine v_bipush C dL_law_195 kb_m5 ?_
      refine as_21 C dL_law_197 h (fun h => ?_)
      refine v_lt h (fun σ62 h => ?_)
      refine v_aload C dL_law_198 rfl ?_
      refine v_bipush C dL_law_200 kb_11 ?_
      refine v_iload C dL_law_202 rfl ?_
      refine v_imul C dL_law_204 ?_
      refine v_bipush C dL_law_205 kb_10 ?_
      refine v_iadd C dL_law_207 ?_
      refine v_bipush C dL_law_208 kb_m5 ?_
      refine as_21 C dL_law_210 h (fun h => ?_)
      refine v_aload_n C dL_law_211 rfl rfl ?_
      refine v_aload C dL_law_212 rfl ?_
      refine v_bipush C dL_law_214 kb_11 ?_
      refine v_iload C dL_law_216 rfl ?_
      refine v_imul C dL_law_218 ?_
      refine ld_21 C dL_law_219 h (fun h => ?_)
      refine v_aload C dL_law_220 rfl ?_
      refine v_bipush C dL_law_222 kb_11 ?_
      refine v_iload C dL_law_224 rfl ?_
      refine v_imul C dL_law_226 ?_
      refine v_iconst C dL_law_227 ki_1 ?_
      refine v_iadd C dL_law_228 ?_
      refine ld_21 C dL_law_229 h (fun h => ?_)
      refine v_aload C dL_law_230 rfl ?_
      refine v_bipush C dL_law_232 kb_11 ?_
      refine v_iload C dL_law_234 rfl ?_
      refine v_imul C dL_law_236 ?_
      refine v_iconst C dL_law_237 ki_2 ?_
      refine v_iadd C dL_law_238 ?_
      refine ld_21 C dL_law_239 h (fun h => ?_)
      refine cVi C 9 0 0 (av := [.int ((up σ62 336 0 (((11 : Int32) * x6) + (10 : Int32)).toNatClampNeg (-5 : Int32)).1 336 0 ((11 : Int32) * x6).toNatClampNeg), .int ((up σ62 336 0 (((11 : Int32) * x6) + (10 : Int32)).toNatClampNeg (-5 : Int32)).1 336 0 (((11 : Int32) * x6) + (1 : Int32)).toNatClampNeg), .int ((up σ62 336 0 (((11 : Int32) * x6) + (10 : Int32)).toNatClampNeg (-5 : Int32)).1 336 0 (((11 : Int32) * x6) + (2 : Int32)).toNatClampNeg)]) si_X9_openLoan lk_L_100 (ok9) rfl rfl rfl rfl (st := []) rfl (Nat.le_of_ble_eq_true rfl) dL_law_240 h (fun _ _ hc => s_X9_openLoan (d := 3) ((up σ62 336 0 (((11 : Int32) * x6) + (10 : Int32)).toNatClampNeg (-5 : Int32)).1 336 0 ((11 : Int32) * x6).toNatClampNeg) ((up σ62 336 0 (((11 : Int32) * x6) + (10 : Int32)).toNatClampNeg (-5 : Int32)).1 336 0 (((11 : Int32) * x6) + (1 : Int32)).toNatClampNeg) ((up σ62 336 0 (((11 : Int32) * x6) + (10 : Int32)).toNatClampNeg (-5 : Int32)).1 336 0 (((11 : Int32) * x6) + (2 : Int32)).toNatClampNeg)  hc) (fun r63 σ64 h => ?_)
      refine v_iload C dL_law_243 rfl ?_
      refine v_icmp_ne C dL_law_245 (tgt := 261) (by decide) h (fun h => ?_) (fun h => ?_)
      · cases h
      · refine v_aload_n C dL_law_248 rfl rfl ?_
        refine v_bipush C dL_law_249 kb_99 ?_
        refine v_iconst C dL_law_251 ki_0 ?_
        refine v_iconst C dL_law_252 ki_1 ?_
        refine cVi C 9 0 0 (av := [.int (99 : Int32), .int (0 : Int32), .int (1 : Int32)]) si_X9_openLoan lk_L_100 (ok9) rfl rfl rfl rfl (st := []) rfl (Nat.le_of_ble_eq_true rfl) dL_law_253 h (fun _ _ hc => s_X9_openLoan (d := 3) (99 : Int32) (0 : Int32) (1 : Int32)  hc) (fun r65 σ66 h => ?_)
        refine v_bipush C dL_law_256 kb_m2 ?_
        refine v_icmp_eq C dL_law_258 (tgt := 263) (by decide) h (fun h => ?_) (fun h => ?_)
        · refine v_iinc C dL_law_263 rfl (kc_1 _) (lc1 := [some (.ref b), some (.ref (ad G 9 0 0)), some (.ref (ad G 19 0 0)), some (.ref (ad G 20 0 0)), some (.ref (ad G 21 0 0)), some (.ref (ad G 22 0 0)), some (.ref (ad G 23 0 0)), some (.ref (ad G 24 0 0)), some (.int (x6 + 1)), some (.int (cel L xs ((3 : Int32) + x6))), none]) rfl ?_
          refine v_goto C dL_law_266 (tgt := 109) (by decide) ?_
          refine v_mask [true, true, true, true, true, true, true, true, true, false, false] (lc' := [some (.ref b), some (.ref (ad G 9 0 0)), some (.ref (ad G 19 0 0)), some (.ref (ad G 20 0 0)), some (.ref (ad G 21 0 0)), some (.ref (ad G 22 0 0)), some (.ref (ad G 23 0 0)), some (.ref (ad G 24 0 0)), some (.int (x6 + 1)), none, none]) rfl ?_
          exact hrec4 _ _ h
        · cases h
  · refine v_aload_n C dL_law_55 rfl rfl ?_
    refine v_iconst C dL_law_56 ki_3 ?_
    refine v_iload C dL_law_57 rfl ?_
    refine v_imul C dL_law_59 ?_
    refine v_aload_n C dL_law_60 rfl rfl ?_
    refine v_iload C dL_law_61 rfl ?_
    refine v_cell C hL hX hbl hbA (st := [.int ((3 : Int32) * x3), .ref (ad G 20 0 0)]) lk_L_93 rfl (Nat.le_of_ble_eq_true rfl) dL_law_63 h (fun h => ?_)
    refine v_sipush C dL_law_66 ks_4000 ?_
    refine cSi C (av := [.int (cel L xs x3), .int (4000 : Int32)]) si_L_low lk_L_41 rfl rfl (st := [.int ((3 : Int32) * x3), .ref (ad G 20 0 0)]) rfl (Nat.le_of_ble_eq_true rfl) dL_law_69 h (fun _ _ hc => s_L_low (d := 6) (cel L xs x3) (4000 : Int32)  hc) (fun r67 σ68 h => ?_)
    refine as_20 C dL_law_72 h (fun h => ?_)
    refine v_aload_n C dL_law_73 rfl rfl ?_
    refine v_aload_n C dL_law_74 rfl rfl ?_
    refine v_iconst C dL_law_75 ki_3 ?_
    refine v_iload C dL_law_76 rfl ?_
    refine v_imul C dL_law_78 ?_
    refine ld_20 C dL_law_79 h (fun h => ?_)
    refine cVi C 9 0 0 (av := [.int ((up σ68 320 0 ((3 : Int32) * x3).toNatClampNeg r67).1 320 0 ((3 : Int32) * x3).toNatClampNeg)]) si_X9_addInvestor lk_L_97 (ok9) rfl rfl rfl rfl (st := []) rfl (Nat.le_of_ble_eq_true rfl) dL_law_80 h (fun _ _ hc => s_X9_addInvestor (d := 3) ((up σ68 320 0 ((3 : Int32) * x3).toNatClampNeg r67).1 320 0 ((3 : Int32) * x3).toNatClampNeg)  hc) (fun r69 σ70 h => ?_)
    refine v_iload C dL_law_83 rfl ?_
    refine v_icmp_ne C dL_law_85 (tgt := 98) (by decide) h (fun h => ?_) (fun h => ?_)
    · cases h
    · refine v_aload_n C dL_law_88 rfl rfl ?_
      refine v_iconst C dL_law_89 ki_m1 ?_
      refine cVi C 9 0 0 (av := [.int (-1 : Int32)]) si_X9_addInvestor lk_L_97 (ok9) rfl rfl rfl rfl (st := []) rfl (Nat.le_of_ble_eq_true rfl) dL_law_90 h (fun _ _ hc => s_X9_addInvestor (d := 3) (-1 : Int32)  hc) (fun r71 σ72 h => ?_)
      refine v_bipush C dL_law_93 kb_m2 ?_
      refine v_icmp_eq C dL_law_95 (tgt := 100) (by decide) h (fun h => ?_) (fun h => ?_)
      · refine v_iinc C dL_law_100 rfl (kc_1 _) (lc1 := [some (.ref b), some (.ref (ad G 9 0 0)), some (.ref (ad G 19 0 0)), some (.ref (ad G 20 0 0)), some (.ref (ad G 21 0 0)), some (.ref (ad G 22 0 0)), some (.ref (ad G 23 0 0)), some (.ref (ad G 24 0 0)), some (.int (x3 + 1)), none, none]) rfl ?_
        refine v_goto C dL_law_103 (tgt := 49) (by decide) ?_
        refine v_mask [true, true, true, true, true, true, true, true, true, false, false] (lc' := [some (.ref b), some (.ref (ad G 9 0 0)), some (.ref (ad G 19 0 0)), some (.ref (ad G 20 0 0)), some (.ref (ad G 21 0 0)), some (.ref (ad G 22 0 0)), some (.ref (ad G 23 0 0)), some (.ref (ad G 24 0 0)), some (.int (x3 + 1)), none, none]) rfl ?_
        exact hrec1 _ _ h
      · cases h
