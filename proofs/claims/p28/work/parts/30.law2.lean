/-! by program (wip/p28/walk.py): L_areNotes L_isFunded -/
def dc_L_areNotes  (σ : Sto) : Option (Int32 × Sto) :=
  wh2 (fun (rec1 : Int32 → Int32 → Sto → Option (Int32 × Sto)) (x3 : Int32) (x4 : Int32) (σ2 : Sto) => (if inb (2 : Int32) 9 then (if (σ2.1 304 0 (2 : Int32).toNatClampNeg) ≤ x4 then wh1 (fun (rec5 : Int32 → Sto → Option (Int32 × Sto)) (x7 : Int32) (σ6 : Sto) => (if (3 : Int32) ≤ x7 then wh1 (fun (rec8 : Int32 → Sto → Option (Int32 × Sto)) (x10 : Int32) (σ9 : Sto) => (if (4 : Int32) ≤ x10 then (bd (dc_X9_count (13 : Int32) σ9) fun r11 σ12 => (if r11 = x3 then (if inb (2 : Int32) 9 then (bd (dc_X9_note (σ12.1 304 0 (2 : Int32).toNatClampNeg) (0 : Int32) σ12) fun r13 σ14 => (if r13 = (-1 : Int32) then (bd (dc_X9_investor (3 : Int32) (0 : Int32) σ14) fun r15 σ16 => (if r15 = (-1 : Int32) then (bd (dc_X9_servicer (4 : Int32) (0 : Int32) σ16) fun r17 σ18 => (if r17 = (-1 : Int32) then some ((1 : Int32), σ18) else some ((0 : Int32), σ18))) else some ((0 : Int32), σ16))) else some ((0 : Int32), σ14))) else none) else some ((0 : Int32), σ12))) else (bd (dc_X9_servicer x10 (0 : Int32) σ9) fun r19 σ20 => (bd (dc_L_fee x10 σ20) fun r21 σ22 => (if r19 = r21 then (bd (dc_X9_servicer x10 (1 : Int32) σ22) fun r23 σ24 => (if inb ((5 : Int32) + x10) 9 then (if r23 = (σ24.1 304 0 ((5 : Int32) + x10).toNatClampNeg) then rec8 (x10 + 1) σ24 else some ((0 : Int32), σ24)) else none)) else some ((0 : Int32), σ22)))))) FU (0 : Int32) σ6 else wh4 (fun (rec25 : Int32 → Int32 → Int32 → Int32 → Sto → Option (Int32 × Sto)) (x27 : Int32) (x28 : Int32) (x29 : Int32) (x30 : Int32) (σ26 : Sto) => (if inb (2 : Int32) 9 then (if (σ26.1 304 0 (2 : Int32).toNatClampNeg) ≤ x30 then (bd (dc_X9_investor x7 (0 : Int32) σ26) fun r31 σ32 => (if inb ((3 : Int32) * x7) 9 then (if r31 = (σ32.1 320 0 ((3 : Int32) * x7).toNatClampNeg) then (bd (dc_X9_investor x7 (1 : Int32) σ32) fun r33 σ34 => (if r33 = x27 then (bd (dc_X9_investor x7 (2 : Int32) σ34) fun r35 σ36 => (if r35 = x28 then (bd (dc_X9_investor x7 (3 : Int32) σ36) fun r37 σ38 => (if r37 = x29 then (bd (dc_X9_investor x7 (4 : Int32) σ38) fun r39 σ40 => (if inb (((3 : Int32) * x7) + (1 : Int32)) 9 then (if r39 = (σ40.1 320 0 (((3 : Int32) * x7) + (1 : Int32)).toNatClampNeg) then (bd (dc_X9_investor x7 (5 : Int32) σ40) fun r41 σ42 => (if inb (((3 : Int32) * x7) + (2 : Int32)) 9 then (if r41 = (σ42.1 320 0 (((3 : Int32) * x7) + (2 : Int32)).toNatClampNeg) then rec5 (x7 + 1) σ42 else some ((0 : Int32), σ42)) else none)) else some ((0 : Int32), σ40)) else none)) else some ((0 : Int32), σ38))) else some ((0 : Int32), σ36))) else some ((0 : Int32), σ34))) else some ((0 : Int32), σ32)) else none)) else (if inb ((6 : Int32) * x30) 60 then jn (fun (v43 : Int32) => jn (fun (v45 : Int32) => jn (fun (v47 : Int32) => (if v43 = 0 then rec25 (x27 + v45) (x28 + v47) (x29 ||| (0 : Int32)) (x30 + 1) σ26 else (if inb (((6 : Int32) * x30) + (1 : Int32)) 60 then rec25 (x27 + v45) (x28 + v47) (x29 ||| ((1 : Int32) <<< ((σ26.1 352 0 (((6 : Int32) * x30) + (1 : Int32)).toNatClampNeg) &&& 31))) (x30 + 1) σ26 else none))) (fun k48 => (if v43 = 0 then k48 (0 : Int32) else k48 (1 : Int32)))) (fun k46 => (if v43 = 0 then k46 (0 : Int32) else (if inb (((6 : Int32) * x30) + (3 : Int32)) 60 then k46 (σ26.1 352 0 (((6 : Int32) * x30) + (3 : Int32)).toNatClampNeg) else none)))) (fun k44 => jn (k44 (0 : Int32)) (fun k49 => (if (σ26.1 352 0 ((6 : Int32) * x30).toNatClampNeg) = x7 then (if inb (((6 : Int32) * x30) + (3 : Int32)) 60 then (if (σ26.1 352 0 (((6 : Int32) * x30) + (3 : Int32)).toNatClampNeg) ≤ 0 then k49  else k44 (1 : Int32)) else none) else k49 ))) else none)) else none)) FU (0 : Int32) (0 : Int32) (0 : Int32) (0 : Int32) σ6)) FU (0 : Int32) σ2 else (bd (dc_X9_note x4 (0 : Int32) σ2) fun r50 σ51 => (if inb ((6 : Int32) * x4) 60 then (if r50 = (σ51.1 352 0 ((6 : Int32) * x4).toNatClampNeg) then (bd (dc_X9_note x4 (1 : Int32) σ51) fun r52 σ53 => (if inb (((6 : Int32) * x4) + (1 : Int32)) 60 then (if r52 = (σ53.1 352 0 (((6 : Int32) * x4) + (1 : Int32)).toNatClampNeg) then (bd (dc_X9_note x4 (2 : Int32) σ53) fun r54 σ55 => (if inb (((6 : Int32) * x4) + (2 : Int32)) 60 then (if r54 = (σ55.1 352 0 (((6 : Int32) * x4) + (2 : Int32)).toNatClampNeg) then (bd (dc_X9_note x4 (3 : Int32) σ55) fun r56 σ57 => (if inb (((6 : Int32) * x4) + (3 : Int32)) 60 then (if r56 = (σ57.1 352 0 (((6 : Int32) * x4) + (3 : Int32)).toNatClampNeg) then (bd (dc_X9_note x4 (4 : Int32) σ57) fun r58 σ59 => (if inb x4 10 then (if r58 = (σ59.1 368 0 x4.toNatClampNeg) then (bd (dc_X9_note x4 (5 : Int32) σ59) fun r60 σ61 => (if inb (((6 : Int32) * x4) + (4 : Int32)) 60 then (if r60 = (σ61.1 352 0 (((6 : Int32) * x4) + (4 : Int32)).toNatClampNeg) then (bd (dc_X9_note x4 (6 : Int32) σ61) fun r62 σ63 => (if inb (((6 : Int32) * x4) + (5 : Int32)) 60 then (if r62 = (σ63.1 352 0 (((6 : Int32) * x4) + (5 : Int32)).toNatClampNeg) then (if inb (((6 : Int32) * x4) + (5 : Int32)) 60 then rec1 (x3 + (σ63.1 352 0 (((6 : Int32) * x4) + (5 : Int32)).toNatClampNeg)) (x4 + 1) σ63 else none) else some ((0 : Int32), σ63)) else none)) else some ((0 : Int32), σ61)) else none)) else some ((0 : Int32), σ59)) else none)) else some ((0 : Int32), σ57)) else none)) else some ((0 : Int32), σ55)) else none)) else some ((0 : Int32), σ53)) else none)) else some ((0 : Int32), σ51)) else none))) else none)) FU (0 : Int32) (0 : Int32) σ
set_option maxRecDepth 20000 in
set_option maxHeartbeats 4000000 in
theorem s_L_areNotes {G : Gm} {d : Nat}  {σ τ : Sto} {r : Int32} (h : dc_L_areNotes  σ = some (r, τ)) : Cl G (d + 4) m_L_areNotes [.ref (ad G 9 0 0), .ref (ad G 19 0 0), .ref (ad G 20 0 0), .ref (ad G 22 0 0), .ref (ad G 23 0 0)] σ (some (.int r)) τ := by
  unfold dc_L_areNotes at h
  refine Cl.mk (cc := cL_areNotes) (own := RL) (nL := 12) (ret := (some .boolean)) rfl rfl rfl rfl (by decide +kernel) (catA rfl) (Nat.le_of_ble_eq_true rfl) (fun X C => ?_)
  show V X G 0 0 (QE X G (some (.int r)) τ) σ 0 [some (.ref (ad G 9 0 0)), some (.ref (ad G 19 0 0)), some (.ref (ad G 20 0 0)), some (.ref (ad G 22 0 0)), some (.ref (ad G 23 0 0)), none, none, none, none, none, none, none] []
  refine v_iconst C dL_areNotes_0 ki_0 ?_
  refine v_istore C dL_areNotes_1 (Nat.le_of_ble_eq_true rfl) (lc1 := [some (.ref (ad G 9 0 0)), some (.ref (ad G 19 0 0)), some (.ref (ad G 20 0 0)), some (.ref (ad G 22 0 0)), some (.ref (ad G 23 0 0)), some (.int (0 : Int32)), none, none, none, none, none, none]) rfl ?_
  refine v_iconst C dL_areNotes_3 ki_0 ?_
  refine v_istore C dL_areNotes_4 (Nat.le_of_ble_eq_true rfl) (lc1 := [some (.ref (ad G 9 0 0)), some (.ref (ad G 19 0 0)), some (.ref (ad G 20 0 0)), some (.ref (ad G 22 0 0)), some (.ref (ad G 23 0 0)), some (.int (0 : Int32)), some (.int (0 : Int32)), none, none, none, none, none]) rfl ?_
  refine v_loop2 (fun x3 x4 σ2 => V X G 0 0 (QE X G (some (.int r)) τ) σ2 6 [some (.ref (ad G 9 0 0)), some (.ref (ad G 19 0 0)), some (.ref (ad G 20 0 0)), some (.ref (ad G 22 0 0)), some (.ref (ad G 23 0 0)), some (.int x3), some (.int x4), none, none, none, none, none] []) (fun rec1 hrec1 x3 x4 σ2 h => ?_) h
  refine v_iload C dL_areNotes_6 rfl ?_
  refine v_aload_n C dL_areNotes_8 rfl rfl ?_
  refine v_iconst C dL_areNotes_9 ki_2 ?_
  refine ld_19 C dL_areNotes_10 h (fun h => ?_)
  refine v_icmp_ge C dL_areNotes_11 (tgt := 150) (by decide) h (fun h => ?_) (fun h => ?_)
  · refine v_iconst C dL_areNotes_150 ki_0 ?_
    refine v_istore C dL_areNotes_151 (Nat.le_of_ble_eq_true rfl) (lc1 := [some (.ref (ad G 9 0 0)), some (.ref (ad G 19 0 0)), some (.ref (ad G 20 0 0)), some (.ref (ad G 22 0 0)), some (.ref (ad G 23 0 0)), some (.int x3), some (.int (0 : Int32)), none, none, none, none, none]) rfl ?_
    refine v_loop1 (fun x7 σ6 => V X G 0 0 (QE X G (some (.int r)) τ) σ6 153 [some (.ref (ad G 9 0 0)), some (.ref (ad G 19 0 0)), some (.ref (ad G 20 0 0)), some (.ref (ad G 22 0 0)), some (.ref (ad G 23 0 0)), some (.int x3), some (.int x7), none, none, none, none, none] []) (fun rec5 hrec5 x7 σ6 h => ?_) h
    refine v_iload C dL_areNotes_153 rfl ?_
    refine v_iconst C dL_areNotes_155 ki_3 ?_
    refine v_icmp_ge C dL_areNotes_156 (tgt := 375) (by decide) h (fun h => ?_) (fun h => ?_)
    · refine v_iconst C dL_areNotes_375 ki_0 ?_
      refine v_istore C dL_areNotes_376 (Nat.le_of_ble_eq_true rfl) (lc1 := [some (.ref (ad G 9 0 0)), some (.ref (ad G 19 0 0)), some (.ref (ad G 20 0 0)), some (.ref (ad G 22 0 0)), some (.ref (ad G 23 0 0)), some (.int x3), some (.int (0 : Int32)), none, none, none, none, none]) rfl ?_
      refine v_loop1 (fun x10 σ9 => V X G 0 0 (QE X G (some (.int r)) τ) σ9 378 [some (.ref (ad G 9 0 0)), some (.ref (ad G 19 0 0)), some (.ref (ad G 20 0 0)), some (.ref (ad G 22 0 0)), some (.ref (ad G 23 0 0)), some (.int x3), some (.int x10), none, none, none, none, none] []) (fun rec8 hrec8 x10 σ9 h => ?_) h
      refine v_iload C dL_areNotes_378 rfl ?_
      refine v_iconst C dL_areNotes_380 ki_4 ?_
      refine v_icmp_ge C dL_areNotes_381 (tgt := 423) (by decide) h (fun h => ?_) (fun h => ?_)
      · refine v_aload_n C dL_areNotes_423 rfl rfl ?_
        refine v_bipush C dL_areNotes_424 kb_13 ?_
        refine cVi C 9 0 0 (av := [.int (13 : Int32)]) si_X9_count lk_L_25 (ok9) rfl rfl rfl rfl (st := []) rfl (Nat.le_of_ble_eq_true rfl) dL_areNotes_426 h (fun _ _ hc => s_X9_count (d := (d + 2)) (13 : Int32)  hc) (fun r11 σ12 h => ?_)
        refine v_iload C dL_areNotes_429 rfl ?_
        refine v_icmp_ne C dL_areNotes_431 (tgt := 470) (by decide) h (fun h => ?_) (fun h => ?_)
        · refine v_iconst C dL_areNotes_470 ki_0 ?_
          exact v_zretc C dL_areNotes_471 (nar01 (Or.inl rfl)) h
        · refine v_aload_n C dL_areNotes_434 rfl rfl ?_
          refine v_aload_n C dL_areNotes_435 rfl rfl ?_
          refine v_iconst C dL_areNotes_436 ki_2 ?_
          refine ld_19 C dL_areNotes_437 h (fun h => ?_)
          refine v_iconst C dL_areNotes_438 ki_0 ?_
          refine cVi C 9 0 0 (av := [.int (σ12.1 304 0 (2 : Int32).toNatClampNeg), .int (0 : Int32)]) si_X9_note lk_L_29 (ok9) rfl rfl rfl rfl (st := []) rfl (Nat.le_of_ble_eq_true rfl) dL_areNotes_439 h (fun _ _ hc => s_X9_note (d := (d + 2)) (σ12.1 304 0 (2 : Int32).toNatClampNeg) (0 : Int32)  hc) (fun r13 σ14 h => ?_)
          refine v_iconst C dL_areNotes_442 ki_m1 ?_
          refine v_icmp_ne C dL_areNotes_443 (tgt := 470) (by decide) h (fun h => ?_) (fun h => ?_)
          · refine v_iconst C dL_areNotes_470 ki_0 ?_
            exact v_zretc C dL_areNotes_471 (nar01 (Or.inl rfl)) h
          · refine v_aload_n C dL_areNotes_446 rfl rfl ?_
            refine v_iconst C dL_areNotes_447 ki_3 ?_
            refine v_iconst C dL_areNotes_448 ki_0 ?_
            refine cVi C 9 0 0 (av := [.int (3 : Int32), .int (0 : Int32)]) si_X9_investor lk_L_32 (ok9) rfl rfl rfl rfl (st := []) rfl (Nat.le_of_ble_eq_true rfl) dL_areNotes_449 h (fun _ _ hc => s_X9_investor (d := (d + 2)) (3 : Int32) (0 : Int32)  hc) (fun r15 σ16 h => ?_)
            refine v_iconst C dL_areNotes_452 ki_m1 ?_
            refine v_icmp_ne C dL_areNotes_453 (tgt := 470) (by decide) h (fun h => ?_) (fun h => ?_)
            · refine v_iconst C dL_areNotes_470 ki_0 ?_
              exact v_zretc C dL_areNotes_471 (nar01 (Or.inl rfl)) h
            · refine v_aload_n C dL_areNotes_456 rfl rfl ?_
              refine v_iconst C dL_areNotes_457 ki_4 ?_
              refine v_iconst C dL_areNotes_458 ki_0 ?_
              refine cVi C 9 0 0 (av := [.int (4 : Int32), .int (0 : Int32)]) si_X9_servicer lk_L_35 (ok9) rfl rfl rfl rfl (st := []) rfl (Nat.le_of_ble_eq_true rfl) dL_areNotes_459 h (fun _ _ hc => s_X9_servicer (d := d) (4 : Int32) (0 : Int32)  hc) (fun r17 σ18 h => ?_)
              refine v_iconst C dL_areNotes_462 ki_m1 ?_
              refine v_icmp_ne C dL_areNotes_463 (tgt := 470) (by decide) h (fun h => ?_) (fun h => ?_)
              · refine v_iconst C dL_areNotes_470 ki_0 ?_
                exact v_zretc C dL_areNotes_471 (nar01 (Or.inl rfl)) h
              · refine v_iconst C dL_areNotes_466 ki_1 ?_
                refine v_goto C dL_areNotes_467 (tgt := 471) (by decide) ?_
                exact v_zretc C dL_areNotes_471 (nar01 (Or.inr rfl)) h
      · refine v_aload_n C dL_areNotes_384 rfl rfl ?_
        refine v_iload C dL_areNotes_385 rfl ?_
        refine v_iconst C dL_areNotes_387 ki_0 ?_
        refine cVi C 9 0 0 (av := [.int x10, .int (0 : Int32)]) si_X9_servicer lk_L_35 (ok9) rfl rfl rfl rfl (st := []) rfl (Nat.le_of_ble_eq_true rfl) dL_areNotes_388 h (fun _ _ hc => s_X9_servicer (d := d) x10 (0 : Int32)  hc) (fun r19 σ20 h => ?_)
        refine v_iload C dL_areNotes_391 rfl ?_
        refine cSi C (av := [.int x10]) si_L_fee lk_L_38 rfl rfl (st := [.int r19]) rfl (Nat.le_of_ble_eq_true rfl) dL_areNotes_393 h (fun _ _ hc => s_L_fee (d := (d + 3)) x10  hc) (fun r21 σ22 h => ?_)
        refine v_icmp_ne C dL_areNotes_396 (tgt := 415) (by decide) h (fun h => ?_) (fun h => ?_)
        · refine v_iconst C dL_areNotes_415 ki_0 ?_
          exact v_zretc C dL_areNotes_416 (nar01 (Or.inl rfl)) h
        · refine v_aload_n C dL_areNotes_399 rfl rfl ?_
          refine v_iload C dL_areNotes_400 rfl ?_
          refine v_iconst C dL_areNotes_402 ki_1 ?_
          refine cVi C 9 0 0 (av := [.int x10, .int (1 : Int32)]) si_X9_servicer lk_L_35 (ok9) rfl rfl rfl rfl (st := []) rfl (Nat.le_of_ble_eq_true rfl) dL_areNotes_403 h (fun _ _ hc => s_X9_servicer (d := d) x10 (1 : Int32)  hc) (fun r23 σ24 h => ?_)
          refine v_aload_n C dL_areNotes_406 rfl rfl ?_
          refine v_iconst C dL_areNotes_407 ki_5 ?_
          refine v_iload C dL_areNotes_408 rfl ?_
          refine v_iadd C dL_areNotes_410 ?_
          refine ld_19 C dL_areNotes_411 h (fun h => ?_)
          refine v_icmp_eq C dL_areNotes_412 (tgt := 417) (by decide) h (fun h => ?_) (fun h => ?_)
          · refine v_iinc C dL_areNotes_417 rfl (kc_1 _) (lc1 := [some (.ref (ad G 9 0 0)), some (.ref (ad G 19 0 0)), some (.ref (ad G 20 0 0)), some (.ref (ad G 22 0 0)), some (.ref (ad G 23 0 0)), some (.int x3), some (.int (x10 + 1)), none, none, none, none, none]) rfl ?_
            refine v_goto C dL_areNotes_420 (tgt := 378) (by decide) ?_
            refine v_mask [true, true, true, true, true, true, true, false, false, false, false, false] (lc' := [some (.ref (ad G 9 0 0)), some (.ref (ad G 19 0 0)), some (.ref (ad G 20 0 0)), some (.ref (ad G 22 0 0)), some (.ref (ad G 23 0 0)), some (.int x3), some (.int (x10 + 1)), none, none, none, none, none]) rfl ?_
            exact hrec8 _ _ h
          · refine v_iconst C dL_areNotes_415 ki_0 ?_
            exact v_zretc C dL_areNotes_416 (nar01 (Or.inl rfl)) h
    · refine v_iconst C dL_areNotes_159 ki_0 ?_
      refine v_istore C dL_areNotes_160 (Nat.le_of_ble_eq_true rfl) (lc1 := [some (.ref (ad G 9 0 0)), some (.ref (ad G 19 0 0)), some (.ref (ad G 20 0 0)), some (.ref (ad G 22 0 0)), some (.ref (ad G 23 0 0)), some (.int x3), some (.int x7), some (.int (0 : Int32)), none, none, none, none]) rfl ?_
      refine v_iconst C dL_areNotes_162 ki_0 ?_
      refine v_istore C dL_areNotes_163 (Nat.le_of_ble_eq_true rfl) (lc1 := [some (.ref (ad G 9 0 0)), some (.ref (ad G 19 0 0)), some (.ref (ad G 20 0 0)), some (.ref (ad G 22 0 0)), some (.ref (ad G 23 0 0)), some (.int x3), some (.int x7), some (.int (0 : Int32)), some (.int (0 : Int32)), none, none, none]) rfl ?_
      refine v_iconst C dL_areNotes_165 ki_0 ?_
      refine v_istore C dL_areNotes_166 (Nat.le_of_ble_eq_true rfl) (lc1 := [some (.ref (ad G 9 0 0)), some (.ref (ad G 19 0 0)), some (.ref (ad G 20 0 0)), some (.ref (ad G 22 0 0)), some (.ref (ad G 23 0 0)), some (.int x3), some (.int x7), some (.int (0 : Int32)), some (.int (0 : Int32)), some (.int (0 : Int32)), none, none]) rfl ?_
      refine v_iconst C dL_areNotes_168 ki_0 ?_
      refine v_istore C dL_areNotes_169 (Nat.le_of_ble_eq_true rfl) (lc1 := [some (.ref (ad G 9 0 0)), some (.ref (ad G 19 0 0)), some (.ref (ad G 20 0 0)), some (.ref (ad G 22 0 0)), some (.ref (ad G 23 0 0)), some (.int x3), some (.int x7), some (.int (0 : Int32)), some (.int (0 : Int32)), some (.int (0 : Int32)), some (.int (0 : Int32)), none]) rfl ?_
      refine v_loop4 (fun x27 x28 x29 x30 σ26 => V X G 0 0 (QE X G (some (.int r)) τ) σ26 171 [some (.ref (ad G 9 0 0)), some (.ref (ad G 19 0 0)), some (.ref (ad G 20 0 0)), some (.ref (ad G 22 0 0)), some (.ref (ad G 23 0 0)), some (.int x3), some (.int x7), some (.int x27), some (.int x28), some (.int x29), some (.int x30), none] []) (fun rec25 hrec25 x27 x28 x29 x30 σ26 h => ?_) h
      refine v_iload C dL_areNotes_171 rfl ?_
      refine v_aload_n C dL_areNotes_173 rfl rfl ?_
      refine v_iconst C dL_areNotes_174 ki_2 ?_
      refine ld_19 C dL_areNotes_175 h (fun h => ?_)
      refine v_icmp_ge C dL_areNotes_176 (tgt := 279) (by decide) h (fun h => ?_) (fun h => ?_)
      · refine v_aload_n C dL_areNotes_279 rfl rfl ?_
        refine v_iload C dL_areNotes_280 rfl ?_
        refine v_iconst C dL_areNotes_282 ki_0 ?_
        refine cVi C 9 0 0 (av := [.int x7, .int (0 : Int32)]) si_X9_investor lk_L_32 (ok9) rfl rfl rfl rfl (st := []) rfl (Nat.le_of_ble_eq_true rfl) dL_areNotes_283 h (fun _ _ hc => s_X9_investor (d := (d + 2)) x7 (0 : Int32)  hc) (fun r31 σ32 h => ?_)
        refine v_aload_n C dL_areNotes_286 rfl rfl ?_
        refine v_iconst C dL_areNotes_287 ki_3 ?_
        refine v_iload C dL_areNotes_288 rfl ?_
        refine v_imul C dL_areNotes_290 ?_
        refine ld_20 C dL_areNotes_291 h (fun h => ?_)
        refine v_icmp_ne C dL_areNotes_292 (tgt := 367) (by decide) h (fun h => ?_) (fun h => ?_)
        · refine v_iconst C dL_areNotes_367 ki_0 ?_
          exact v_zretc C dL_areNotes_368 (nar01 (Or.inl rfl)) h
        · refine v_aload_n C dL_areNotes_295 rfl rfl ?_
          refine v_iload C dL_areNotes_296 rfl ?_
          refine v_iconst C dL_areNotes_298 ki_1 ?_
          refine cVi C 9 0 0 (av := [.int x7, .int (1 : Int32)]) si_X9_investor lk_L_32 (ok9) rfl rfl rfl rfl (st := []) rfl (Nat.le_of_ble_eq_true rfl) dL_areNotes_299 h (fun _ _ hc => s_X9_investor (d := (d + 2)) x7 (1 : Int32)  hc) (fun r33 σ34 h => ?_)
          refine v_iload C dL_areNotes_302 rfl ?_
          refine v_icmp_ne C dL_areNotes_304 (tgt := 367) (by decide) h (fun h => ?_) (fun h => ?_)
          · refine v_iconst C dL_areNotes_367 ki_0 ?_
            exact v_zretc C dL_areNotes_368 (nar01 (Or.inl rfl)) h
          · refine v_aload_n C dL_areNotes_307 rfl rfl ?_
            refine v_iload C dL_areNotes_308 rfl ?_
            refine v_iconst C dL_areNotes_310 ki_2 ?_
            refine cVi C 9 0 0 (av := [.int x7, .int (2 : Int32)]) si_X9_investor lk_L_32 (ok9) rfl rfl rfl rfl (st := []) rfl (Nat.le_of_ble_eq_true rfl) dL_areNotes_311 h (fun _ _ hc => s_X9_investor (d := (d + 2)) x7 (2 : Int32)  hc) (fun r35 σ36 h => ?_)
            refine v_iload C dL_areNotes_314 rfl ?_
            refine v_icmp_ne C dL_areNotes_316 (tgt := 367) (by decide) h (fun h => ?_) (fun h => ?_)
            · refine v_iconst C dL_areNotes_367 ki_0 ?_
              exact v_zretc C dL_areNotes_368 (nar01 (Or.inl rfl)) h
            · refine v_aload_n C dL_areNotes_319 rfl rfl ?_
              refine v_iload C dL_areNotes_320 rfl ?_
              refine v_iconst C dL_areNotes_322 ki_3 ?_
              refine cVi C 9 0 0 (av := [.int x7, .int (3 : Int32)]) si_X9_investor lk_L_32 (ok9) rfl rfl rfl rfl (st := []) rfl (Nat.le_of_ble_eq_true rfl) dL_areNotes_323 h (fun _ _ hc => s_X9_investor (d := (d + 2)) x7 (3 : Int32)  hc) (fun r37 σ38 h => ?_)
              refine v_iload C dL_areNotes_326 rfl ?_
              refine v_icmp_ne C dL_areNotes_328 (tgt := 367) (by decide) h (fun h => ?_) (fun h => ?_)
              · refine v_iconst C dL_areNotes_367 ki_0 ?_
                exact v_zretc C dL_areNotes_368 (nar01 (Or.inl rfl)) h
              · refine v_aload_n C dL_areNotes_331 rfl rfl ?_
                refine v_iload C dL_areNotes_332 rfl ?_
                refine v_iconst C dL_areNotes_334 ki_4 ?_
                refine cVi C 9 0 0 (av := [.int x7, .int (4 : Int32)]) si_X9_investor lk_L_32 (ok9) rfl rfl rfl rfl (st := []) rfl (Nat.le_of_ble_eq_true rfl) dL_areNotes_335 h (fun _ _ hc => s_X9_investor (d := (d + 2)) x7 (4 : Int32)  hc) (fun r39 σ40 h => ?_)
                refine v_aload_n C dL_areNotes_338 rfl rfl ?_
                refine v_iconst C dL_areNotes_339 ki_3 ?_
                refine v_iload C dL_areNotes_340 rfl ?_
                refine v_imul C dL_areNotes_342 ?_
                refine v_iconst C dL_areNotes_343 ki_1 ?_
                refine v_iadd C dL_areNotes_344 ?_
                refine ld_20 C dL_areNotes_345 h (fun h => ?_)
                refine v_icmp_ne C dL_areNotes_346 (tgt := 367) (by decide) h (fun h => ?_) (fun h => ?_)
                · refine v_iconst C dL_areNotes_367 ki_0 ?_
                  exact v_zretc C dL_areNotes_368 (nar01 (Or.inl rfl)) h
                · refine v_aload_n C dL_areNotes_349 rfl rfl ?_
                  refine v_iload C dL_areNotes_350 rfl ?_
                  refine v_iconst C dL_areNotes_352 ki_5 ?_
                  refine cVi C 9 0 0 (av := [.int x7, .int (5 : Int32)]) si_X9_investor lk_L_32 (ok9) rfl rfl rfl rfl (st := []) rfl (Nat.le_of_ble_eq_true rfl) dL_areNotes_353 h (fun _ _ hc => s_X9_investor (d := (d + 2)) x7 (5 : Int32)  hc) (fun r41 σ42 h => ?_)
                  refine v_aload_n C dL_areNotes_356 rfl rfl ?_
                  refine v_iconst C dL_areNotes_357 ki_3 ?_
                  refine v_iload C dL_areNotes_358 rfl ?_
                  refine v_imul C dL_areNotes_360 ?_
                  refine v_iconst C dL_areNotes_361 ki_2 ?_
                  refine v_iadd C dL_areNotes_362 ?_
                  refine ld_20 C dL_areNotes_363 h (fun h => ?_)
                  refine v_icmp_eq C dL_areNotes_364 (tgt := 369) (by decide) h (fun h => ?_) (fun h => ?_)
                  · refine v_iinc C dL_areNotes_369 rfl (kc_1 _) (lc1 := [some (.ref (ad G 9 0 0)), some (.ref (ad G 19 0 0)), some (.ref (ad G 20 0 0)), some (.ref (ad G 22 0 0)), some (.ref (ad G 23 0 0)), some (.int x3), some (.int (x7 + 1)), some (.int x27), some (.int x28), some (.int x29), some (.int x30), none]) rfl ?_
                    refine v_goto C dL_areNotes_372 (tgt := 153) (by decide) ?_
                    refine v_mask [true, true, true, true, true, true, true, false, false, false, false, false] (lc' := [some (.ref (ad G 9 0 0)), some (.ref (ad G 19 0 0)), some (.ref (ad G 20 0 0)), some (.ref (ad G 22 0 0)), some (.ref (ad G 23 0 0)), some (.int x3), some (.int (x7 + 1)), none, none, none, none, none]) rfl ?_
                    exact hrec5 _ _ h
                  · refine v_iconst C dL_areNotes_367 ki_0 ?_
                    exact v_zretc C dL_areNotes_368 (nar01 (Or.inl rfl)) h
      · refine v_aload_n C dL_areNotes_179 rfl rfl ?_
        refine v_bipush C dL_areNotes_180 kb_6 ?_
        refine v_iload C dL_areNotes_182 rfl ?_
        refine v_imul C dL_areNotes_184 ?_
        refine ld_22 C dL_areNotes_185 h (fun h => ?_)
        refine v_iload C dL_areNotes_186 rfl ?_
        refine v_join (fun k => ∀ (v43 : Int32), k v43 = some (r, τ) → V X G 0 0 (QE X G (some (.int r)) τ) σ26 208 [some (.ref (ad G 9 0 0)), some (.ref (ad G 19 0 0)), some (.ref (ad G 20 0 0)), some (.ref (ad G 22 0 0)), some (.ref (ad G 23 0 0)), some (.int x3), some (.int x7), some (.int x27), some (.int x28), some (.int x29), some (.int x30), none] [.int v43]) h (fun v43 h => ?_) (fun k44 hk44 h => ?_)
        · refine v_istore C dL_areNotes_208 (Nat.le_of_ble_eq_true rfl) (lc1 := [some (.ref (ad G 9 0 0)), some (.ref (ad G 19 0 0)), some (.ref (ad G 20 0 0)), some (.ref (ad G 22 0 0)), some (.ref (ad G 23 0 0)), some (.int x3), some (.int x7), some (.int x27), some (.int x28), some (.int x29), some (.int x30), some (.int v43)]) rfl ?_
          refine v_iload C dL_areNotes_210 rfl ?_
          refine v_iload C dL_areNotes_212 rfl ?_
          refine v_join (fun k => ∀ (v45 : Int32), k v45 = some (r, τ) → V X G 0 0 (QE X G (some (.int r)) τ) σ26 230 [some (.ref (ad G 9 0 0)), some (.ref (ad G 19 0 0)), some (.ref (ad G 20 0 0)), some (.ref (ad G 22 0 0)), some (.ref (ad G 23 0 0)), some (.int x3), some (.int x7), some (.int x27), some (.int x28), some (.int x29), some (.int x30), some (.int v43)] [.int v45, .int x27]) h (fun v45 h => ?_) (fun k46 hk46 h => ?_)
          · refine v_iadd C dL_areNotes_230 ?_
            refine v_istore C dL_areNotes_231 (Nat.le_of_ble_eq_true rfl) (lc1 := [some (.ref (ad G 9 0 0)), some (.ref (ad G 19 0 0)), some (.ref (ad G 20 0 0)), some (.ref (ad G 22 0 0)), some (.ref (ad G 23 0 0)), some (.int x3), some (.int x7), some (.int (x27 + v45)), some (.int x28), some (.int x29), some (.int x30), some (.int v43)]) rfl ?_
            refine v_iload C dL_areNotes_233 rfl ?_
            refine v_iload C dL_areNotes_235 rfl ?_
            refine v_join (fun k => ∀ (v47 : Int32), k v47 = some (r, τ) → V X G 0 0 (QE X G (some (.int r)) τ) σ26 245 [some (.ref (ad G 9 0 0)), some (.ref (ad G 19 0 0)), some (.ref (ad G 20 0 0)), some (.ref (ad G 22 0 0)), some (.ref (ad G 23 0 0)), some (.int x3), some (.int x7), some (.int (x27 + v45)), some (.int x28), some (.int x29), some (.int x30), some (.int v43)] [.int v47, .int x28]) h (fun v47 h => ?_) (fun k48 hk48 h => ?_)
            · refine v_iadd C dL_areNotes_245 ?_
              refine v_istore C dL_areNotes_246 (Nat.le_of_ble_eq_true rfl) (lc1 := [some (.ref (ad G 9 0 0)), some (.ref (ad G 19 0 0)), some (.ref (ad G 20 0 0)), some (.ref (ad G 22 0 0)), some (.ref (ad G 23 0 0)), some (.int x3), some (.int x7), some (.int (x27 + v45)), some (.int (x28 + v47)), some (.int x29), some (.int x30), some (.int v43)]) rfl ?_
              refine v_iload C dL_areNotes_248 rfl ?_
              refine v_iload C dL_areNotes_250 rfl ?_
              refine v_if_eq C dL_areNotes_252 (tgt := 269) (by decide) h (fun h => ?_) (fun h => ?_)
              · refine v_iconst C dL_areNotes_269 ki_0 ?_
                refine v_ior C dL_areNotes_270 ?_
                refine v_istore C dL_areNotes_271 (Nat.le_of_ble_eq_true rfl) (lc1 := [some (.ref (ad G 9 0 0)), some (.ref (ad G 19 0 0)), some (.ref (ad G 20 0 0)), some (.ref (ad G 22 0 0)), some (.ref (ad G 23 0 0)), some (.int x3), some (.int x7), some (.int (x27 + v45)), some (.int (x28 + v47)), some (.int (x29 ||| (0 : Int32))), some (.int x30), some (.int v43)]) rfl ?_
                refine v_iinc C dL_areNotes_273 rfl (kc_1 _) (lc1 := [some (.ref (ad G 9 0 0)), some (.ref (ad G 19 0 0)), some (.ref (ad G 20 0 0)), some (.ref (ad G 22 0 0)), some (.ref (ad G 23 0 0)), some (.int x3), some (.int x7), some (.int (x27 + v45)), some (.int (x28 + v47)), some (.int (x29 ||| (0 : Int32))), some (.int (x30 + 1)), some (.int v43)]) rfl ?_
                refine v_goto C dL_areNotes_276 (tgt := 171) (by decide) ?_
                refine v_mask [true, true, true, true, true, true, true, true, true, true, true, false] (lc' := [some (.ref (ad G 9 0 0)), some (.ref (ad G 19 0 0)), some (.ref (ad G 20 0 0)), some (.ref (ad G 22 0 0)), some (.ref (ad G 23 0 0)), some (.int x3), some (.int x7), some (.int (x27 + v45)), some (.int (x28 + v47)), some (.int (x29 ||| (0 : Int32))), some (.int (x30 + 1)), none]) rfl ?_
                exact hrec25 _ _ _ _ _ h
              · refine v_iconst C dL_areNotes_255 ki_1 ?_
                refine v_aload_n C dL_areNotes_256 rfl rfl ?_
                refine v_bipush C dL_areNotes_257 kb_6 ?_
                refine v_iload C dL_areNotes_259 rfl ?_
                refine v_imul C dL_areNotes_261 ?_
                refine v_iconst C dL_areNotes_262 ki_1 ?_
                refine v_iadd C dL_areNotes_263 ?_
                refine ld_22 C dL_areNotes_264 h (fun h => ?_)
                refine v_ishl C dL_areNotes_265 ?_
                refine v_goto C dL_areNotes_266 (tgt := 270) (by decide) ?_
                refine v_ior C dL_areNotes_270 ?_
                refine v_istore C dL_areNotes_271 (Nat.le_of_ble_eq_true rfl) (lc1 := [some (.ref (ad G 9 0 0)), some (.ref (ad G 19 0 0)), some (.ref (ad G 20 0 0)), some (.ref (ad G 22 0 0)), some (.ref (ad G 23 0 0)), some (.int x3), some (.int x7), some (.int (x27 + v45)), some (.int (x28 + v47)), some (.int (x29 ||| ((1 : Int32) <<< ((σ26.1 352 0 (((6 : Int32) * x30) + (1 : Int32)).toNatClampNeg) &&& 31)))), some (.int x30), some (.int v43)]) rfl ?_
                refine v_iinc C dL_areNotes_273 rfl (kc_1 _) (lc1 := [some (.ref (ad G 9 0 0)), some (.ref (ad G 19 0 0)), some (.ref (ad G 20 0 0)), some (.ref (ad G 22 0 0)), some (.ref (ad G 23 0 0)), some (.int x3), some (.int x7), some (.int (x27 + v45)), some (.int (x28 + v47)), some (.int (x29 ||| ((1 : Int32) <<< ((σ26.1 352 0 (((6 : Int32) * x30) + (1 : Int32)).toNatClampNeg) &&& 31)))), some (.int (x30 + 1)), some (.int v43)]) rfl ?_
                refine v_goto C dL_areNotes_276 (tgt := 171) (by decide) ?_
                refine v_mask [true, true, true, true, true, true, true, true, true, true, true, false] (lc' := [some (.ref (ad G 9 0 0)), some (.ref (ad G 19 0 0)), some (.ref (ad G 20 0 0)), some (.ref (ad G 22 0 0)), some (.ref (ad G 23 0 0)), some (.int x3), some (.int x7), some (.int (x27 + v45)), some (.int (x28 + v47)), some (.int (x29 ||| ((1 : Int32) <<< ((σ26.1 352 0 (((6 : Int32) * x30) + (1 : Int32)).toNatClampNeg) &&& 31)))), some (.int (x30 + 1)), none]) rfl ?_
                exact hrec25 _ _ _ _ _ h
            · refine v_if_eq C dL_areNotes_237 (tgt := 244) (by decide) h (fun h => ?_) (fun h => ?_)
              · refine v_iconst C dL_areNotes_244 ki_0 ?_
                refine v_mask [true, true, true, true, true, true, true, true, true, true, true, true] (lc' := [some (.ref (ad G 9 0 0)), some (.ref (ad G 19 0 0)), some (.ref (ad G 20 0 0)), some (.ref (ad G 22 0 0)), some (.ref (ad G 23 0 0)), some (.int x3), some (.int x7), some (.int (x27 + v45)), some (.int x28), some (.int x29), some (.int x30), some (.int v43)]) rfl ?_
                exact hk48 _ h
              · refine v_iconst C dL_areNotes_240 ki_1 ?_
                refine v_goto C dL_areNotes_241 (tgt := 245) (by decide) ?_
                refine v_mask [true, true, true, true, true, true, true, true, true, true, true, true] (lc' := [some (.ref (ad G 9 0 0)), some (.ref (ad G 19 0 0)), some (.ref (ad G 20 0 0)), some (.ref (ad G 22 0 0)), some (.ref (ad G 23 0 0)), some (.int x3), some (.int x7), some (.int (x27 + v45)), some (.int x28), some (.int x29), some (.int x30), some (.int v43)]) rfl ?_
                exact hk48 _ h
          · refine v_if_eq C dL_areNotes_214 (tgt := 229) (by decide) h (fun h => ?_) (fun h => ?_)
            · refine v_iconst C dL_areNotes_229 ki_0 ?_
              refine v_mask [true, true, true, true, true, true, true, true, true, true, true, true] (lc' := [some (.ref (ad G 9 0 0)), some (.ref (ad G 19 0 0)), some (.ref (ad G 20 0 0)), some (.ref (ad G 22 0 0)), some (.ref (ad G 23 0 0)), some (.int x3), some (.int x7), some (.int x27), some (.int x28), some (.int x29), some (.int x30), some (.int v43)]) rfl ?_
              exact hk46 _ h
            · refine v_aload_n C dL_areNotes_217 rfl rfl ?_
              refine v_bipush C dL_areNotes_218 kb_6 ?_
              refine v_iload C dL_areNotes_220 rfl ?_
              refine v_imul C dL_areNotes_222 ?_
              refine v_iconst C dL_areNotes_223 ki_3 ?_
              refine v_iadd C dL_areNotes_224 ?_
              refine ld_22 C dL_areNotes_225 h (fun h => ?_)
              refine v_goto C dL_areNotes_226 (tgt := 230) (by decide) ?_
              refine v_mask [true, true, true, true, true, true, true, true, true, true, true, true] (lc' := [some (.ref (ad G 9 0 0)), some (.ref (ad G 19 0 0)), some (.ref (ad G 20 0 0)), some (.ref (ad G 22 0 0)), some (.ref (ad G 23 0 0)), some (.int x3), some (.int x7), some (.int x27), some (.int x28), some (.int x29), some (.int x30), some (.int v43)]) rfl ?_
              exact hk46 _ h
        · refine v_join (fun k => k = some (r, τ) → V X G 0 0 (QE X G (some (.int r)) τ) σ26 207 [some (.ref (ad G 9 0 0)), some (.ref (ad G 19 0 0)), some (.ref (ad G 20 0 0)), some (.ref (ad G 22 0 0)), some (.ref (ad G 23 0 0)), some (.int x3), some (.int x7), some (.int x27), some (.int x28), some (.int x29), some (.int x30), none] []) h (fun h => ?_) (fun k49 hk49 h => ?_)
          · refine v_iconst C dL_areNotes_207 ki_0 ?_
            refine v_mask [true, true, true, true, true, true, true, true, true, true, true, false] (lc' := [some (.ref (ad G 9 0 0)), some (.ref (ad G 19 0 0)), some (.ref (ad G 20 0 0)), some (.ref (ad G 22 0 0)), some (.ref (ad G 23 0 0)), some (.int x3), some (.int x7), some (.int x27), some (.int x28), some (.int x29), some (.int x30), none]) rfl ?_
            exact hk44 _ h
          · refine v_icmp_ne C dL_areNotes_188 (tgt := 207) (by decide) h (fun h => ?_) (fun h => ?_)
            · refine v_mask [true, true, true, true, true, true, true, true, true, true, true, false] (lc' := [some (.ref (ad G 9 0 0)), some (.ref (ad G 19 0 0)), some (.ref (ad G 20 0 0)), some (.ref (ad G 22 0 0)), some (.ref (ad G 23 0 0)), some (.int x3), some (.int x7), some (.int x27), some (.int x28), some (.int x29), some (.int x30), none]) rfl ?_
              exact hk49 h
            · refine v_aload_n C dL_areNotes_191 rfl rfl ?_
              refine v_bipush C dL_areNotes_192 kb_6 ?_
              refine v_iload C dL_areNotes_194 rfl ?_
              refine v_imul C dL_areNotes_196 ?_
              refine v_iconst C dL_areNotes_197 ki_3 ?_
              refine v_iadd C dL_areNotes_198 ?_
              refine ld_22 C dL_areNotes_199 h (fun h => ?_)
              refine v_if_le C dL_areNotes_200 (tgt := 207) (by decide) h (fun h => ?_) (fun h => ?_)
              · refine v_mask [true, true, true, true, true, true, true, true, true, true, true, false] (lc' := [some (.ref (ad G 9 0 0)), some (.ref (ad G 19 0 0)), some (.ref (ad G 20 0 0)), some (.ref (ad G 22 0 0)), some (.ref (ad G 23 0 0)), some (.int x3), some (.int x7), some (.int x27), some (.int x28), some (.int x29), some (.int x30), none]) rfl ?_
                exact hk49 h
              · refine v_iconst C dL_areNotes_203 ki_1 ?_
                refine v_goto C dL_areNotes_204 (tgt := 208) (by decide) ?_
                refine v_mask [true, true, true, true, true, true, true, true, true, true, true, false] (lc' := [some (.ref (ad G 9 0 0)), some (.ref (ad G 19 0 0)), some (.ref (ad G 20 0 0)), some (.ref (ad G 22 0 0)), some (.ref (ad G 23 0 0)), some (.int x3), some (.int x7), some (.int x27), some (.int x28), some (.int x29), some (.int x30), none]) rfl ?_
                exact hk44 _ h
  · refine v_bipush C dL_areNotes_14 kb_6 ?_
    refine v_iload C dL_areNotes_16 rfl ?_
    refine v_imul C dL_areNotes_18 ?_
    refine v_istore C dL_areNotes_19 (Nat.le_of_ble_eq_true rfl) (lc1 := [some (.ref (ad G 9 0 0)), some (.ref (ad G 19 0 0)), some (.ref (ad G 20 0 0)), some (.ref (ad G 22 0 0)), some (.ref (ad G 23 0 0)), some (.int x3), some (.int x4), some (.int ((6 : Int32) * x4)), none, none, none, none]) rfl ?_
    refine v_aload_n C dL_areNotes_21 rfl rfl ?_
    refine v_iload C dL_areNotes_22 rfl ?_
    refine v_iconst C dL_areNotes_24 ki_0 ?_
    refine cVi C 9 0 0 (av := [.int x4, .int (0 : Int32)]) si_X9_note lk_L_29 (ok9) rfl rfl rfl rfl (st := []) rfl (Nat.le_of_ble_eq_true rfl) dL_areNotes_25 h (fun _ _ hc => s_X9_note (d := (d + 2)) x4 (0 : Int32)  hc) (fun r50 σ51 h => ?_)
    refine v_aload_n C dL_areNotes_28 rfl rfl ?_
    refine v_iload C dL_areNotes_29 rfl ?_
    refine ld_22 C dL_areNotes_31 h (fun h => ?_)
    refine v_icmp_ne C dL_areNotes_32 (tgt := 131) (by decide) h (fun h => ?_) (fun h => ?_)
    · refine v_iconst C dL_areNotes_131 ki_0 ?_
      exact v_zretc C dL_areNotes_132 (nar01 (Or.inl rfl)) h
    · refine v_aload_n C dL_areNotes_35 rfl rfl ?_
      refine v_iload C dL_areNotes_36 rfl ?_
      refine v_iconst C dL_areNotes_38 ki_1 ?_
      refine cVi C 9 0 0 (av := [.int x4, .int (1 : Int32)]) si_X9_note lk_L_29 (ok9) rfl rfl rfl rfl (st := []) rfl (Nat.le_of_ble_eq_true rfl) dL_areNotes_39 h (fun _ _ hc => s_X9_note (d := (d + 2)) x4 (1 : Int32)  hc) (fun r52 σ53 h => ?_)
      refine v_aload_n C dL_areNotes_42 rfl rfl ?_
      refine v_iload C dL_areNotes_43 rfl ?_
      refine v_iconst C dL_areNotes_45 ki_1 ?_
      refine v_iadd C dL_areNotes_46 ?_
      refine ld_22 C dL_areNotes_47 h (fun h => ?_)
      refine v_icmp_ne C dL_areNotes_48 (tgt := 131) (by decide) h (fun h => ?_) (fun h => ?_)
      · refine v_iconst C dL_areNotes_131 ki_0 ?_
        exact v_zretc C dL_areNotes_132 (nar01 (Or.inl rfl)) h
      · refine v_aload_n C dL_areNotes_51 rfl rfl ?_
        refine v_iload C dL_areNotes_52 rfl ?_
        refine v_iconst C dL_areNotes_54 ki_2 ?_
        refine cVi C 9 0 0 (av := [.int x4, .int (2 : Int32)]) si_X9_note lk_L_29 (ok9) rfl rfl rfl rfl (st := []) rfl (Nat.le_of_ble_eq_true rfl) dL_areNotes_55 h (fun _ _ hc => s_X9_note (d := (d + 2)) x4 (2 : Int32)  hc) (fun r54 σ55 h => ?_)
        refine v_aload_n C dL_areNotes_58 rfl rfl ?_
        refine v_iload C dL_areNotes_59 rfl ?_
        refine v_iconst C dL_areNotes_61 ki_2 ?_
        refine v_iadd C dL_areNotes_62 ?_
        refine ld_22 C dL_areNotes_63 h (fun h => ?_)
        refine v_icmp_ne C dL_areNotes_64 (tgt := 131) (by decide) h (fun h => ?_) (fun h => ?_)
        · refine v_iconst C dL_areNotes_131 ki_0 ?_
          exact v_zretc C dL_areNotes_132 (nar01 (Or.inl rfl)) h
        · refine v_aload_n C dL_areNotes_67 rfl rfl ?_
          refine v_iload C dL_areNotes_68 rfl ?_
          refine v_iconst C dL_areNotes_70 ki_3 ?_
          refine cVi C 9 0 0 (av := [.int x4, .int (3 : Int32)]) si_X9_note lk_L_29 (ok9) rfl rfl rfl rfl (st := []) rfl (Nat.le_of_ble_eq_true rfl) dL_areNotes_71 h (fun _ _ hc => s_X9_note (d := (d + 2)) x4 (3 : Int32)  hc) (fun r56 σ57 h => ?_)
          refine v_aload_n C dL_areNotes_74 rfl rfl ?_
          refine v_iload C dL_areNotes_75 rfl ?_
          refine v_iconst C dL_areNotes_77 ki_3 ?_
          refine v_iadd C dL_areNotes_78 ?_
          refine ld_22 C dL_areNotes_79 h (fun h => ?_)
          refine v_icmp_ne C dL_areNotes_80 (tgt := 131) (by decide) h (fun h => ?_) (fun h => ?_)
          · refine v_iconst C dL_areNotes_131 ki_0 ?_
            exact v_zretc C dL_areNotes_132 (nar01 (Or.inl rfl)) h
          · refine v_aload_n C dL_areNotes_83 rfl rfl ?_
            refine v_iload C dL_areNotes_84 rfl ?_
            refine v_iconst C dL_areNotes_86 ki_4 ?_
            refine cVi C 9 0 0 (av := [.int x4, .int (4 : Int32)]) si_X9_note lk_L_29 (ok9) rfl rfl rfl rfl (st := []) rfl (Nat.le_of_ble_eq_true rfl) dL_areNotes_87 h (fun _ _ hc => s_X9_note (d := (d + 2)) x4 (4 : Int32)  hc) (fun r58 σ59 h => ?_)
            refine v_aload C dL_areNotes_90 rfl ?_
            refine v_iload C dL_areNotes_92 rfl ?_
            refine ld_23 C dL_areNotes_94 h (fun h => ?_)
            refine v_icmp_ne C dL_areNotes_95 (tgt := 131) (by decide) h (fun h => ?_) (fun h => ?_)
            · refine v_iconst C dL_areNotes_131 ki_0 ?_
              exact v_zretc C dL_areNotes_132 (nar01 (Or.inl rfl)) h
            · refine v_aload_n C dL_areNotes_98 rfl rfl ?_
              refine v_iload C dL_areNotes_99 rfl ?_
              refine v_iconst C dL_areNotes_101 ki_5 ?_
              refine cVi C 9 0 0 (av := [.int x4, .int (5 : Int32)]) si_X9_note lk_L_29 (ok9) rfl rfl rfl rfl (st := []) rfl (Nat.le_of_ble_eq_true rfl) dL_areNotes_102 h (fun _ _ hc => s_X9_note (d := (d + 2)) x4 (5 : Int32)  hc) (fun r60 σ61 h => ?_)
              refine v_aload_n C dL_areNotes_105 rfl rfl ?_
              refine v_iload C dL_areNotes_106 rfl ?_
              refine v_iconst C dL_areNotes_108 ki_4 ?_
              refine v_iadd C dL_areNotes_109 ?_
              refine ld_22 C dL_areNotes_110 h (fun h => ?_)
              refine v_icmp_ne C dL_areNotes_111 (tgt := 131) (by decide) h (fun h => ?_) (fun h => ?_)
              · refine v_iconst C dL_areNotes_131 ki_0 ?_
                exact v_zretc C dL_areNotes_132 (nar01 (Or.inl rfl)) h
              · refine v_aload_n C dL_areNotes_114 rfl rfl ?_
                refine v_iload C dL_areNotes_115 rfl ?_
                refine v_bipush C dL_areNotes_117 kb_6 ?_
                refine cVi C 9 0 0 (av := [.int x4, .int (6 : Int32)]) si_X9_note lk_L_29 (ok9) rfl rfl rfl rfl (st := []) rfl (Nat.le_of_ble_eq_true rfl) dL_areNotes_119 h (fun _ _ hc => s_X9_note (d := (d + 2)) x4 (6 : Int32)  hc) (fun r62 σ63 h => ?_)
                refine v_aload_n C dL_areNotes_122 rfl rfl ?_
                refine v_iload C dL_areNotes_123 rfl ?_
                refine v_iconst C dL_areNotes_125 ki_5 ?_
                refine v_iadd C dL_areNotes_126 ?_
                refine ld_22 C dL_areNotes_127 h (fun h => ?_)
                refine v_icmp_eq C dL_areNotes_128 (tgt := 133) (by decide) h (fun h => ?_) (fun h => ?_)
                · refine v_iload C dL_areNotes_133 rfl ?_
                  refine v_aload_n C dL_areNotes_135 rfl rfl ?_
                  refine v_iload C dL_areNotes_136 rfl ?_
                  refine v_iconst C dL_areNotes_138 ki_5 ?_
                  refine v_iadd C dL_areNotes_139 ?_
                  refine ld_22 C dL_areNotes_140 h (fun h => ?_)
                  refine v_iadd C dL_areNotes_141 ?_
                  refine v_istore C dL_areNotes_142 (Nat.le_of_ble_eq_true rfl) (lc1 := [some (.ref (ad G 9 0 0)), some (.ref (ad G 19 0 0)), some (.ref (ad G 20 0 0)), some (.ref (ad G 22 0 0)), some (.ref (ad G 23 0 0)), some (.int (x3 + (σ63.1 352 0 (((6 : Int32) * x4) + (5 : Int32)).toNatClampNeg))), some (.int x4), some (.int ((6 : Int32) * x4)), none, none, none, none]) rfl ?_
                  refine v_iinc C dL_areNotes_144 rfl (kc_1 _) (lc1 := [some (.ref (ad G 9 0 0)), some (.ref (ad G 19 0 0)), some (.ref (ad G 20 0 0)), some (.ref (ad G 22 0 0)), some (.ref (ad G 23 0 0)), some (.int (x3 + (σ63.1 352 0 (((6 : Int32) * x4) + (5 : Int32)).toNatClampNeg))), some (.int (x4 + 1)), some (.int ((6 : Int32) * x4)), none, none, none, none]) rfl ?_
                  refine v_goto C dL_areNotes_147 (tgt := 6) (by decide) ?_
                  refine v_mask [true, true, true, true, true, true, true, false, false, false, false, false] (lc' := [some (.ref (ad G 9 0 0)), some (.ref (ad G 19 0 0)), some (.ref (ad G 20 0 0)), some (.ref (ad G 22 0 0)), some (.ref (ad G 23 0 0)), some (.int (x3 + (σ63.1 352 0 (((6 : Int32) * x4) + (5 : Int32)).toNatClampNeg))), some (.int (x4 + 1)), none, none, none, none, none]) rfl ?_
                  exact hrec1 _ _ _ h
                · refine v_iconst C dL_areNotes_131 ki_0 ?_
                  exact v_zretc C dL_areNotes_132 (nar01 (Or.inl rfl)) h

def dc_L_isFunded (a6 : Int32) (σ : Sto) : Option (Int32 × Sto) :=
  (if inb (1 : Int32) 9 then (bd (dc_L_low a6 (σ.1 304 0 (1 : Int32).toNatClampNeg) σ) fun r1 σ2 => (bd (dc_L_low (a6 >>> ((3 : Int32) &&& 31)) (3 : Int32) σ2) fun r3 σ4 => (bd (dc_L_low (a6 >>> ((5 : Int32) &&& 31)) (2 : Int32) σ4) fun r5 σ6 => (if inb ((11 : Int32) * r1) 44 then (bd (dc_L_principals r1 (-1 : Int32) σ6) fun r7 σ8 => (bd (dc_L_low (a6 >>> ((6 : Int32) &&& 31)) (2 : Int32) σ8) fun r9 σ10 => jn (fun (v11 : Int32) (σ12 : Sto) => (if inb (((11 : Int32) * r1) + (3 : Int32)) 44 then jn (jn (fun (v15 : Int32) => (bd (dc_X9_fund r3 r1 v15 v11 σ12) fun r17 σ18 => (if r17 = (-4 : Int32) then jn (fun (v19 : Int32) => (bd (dc_X9_fund r3 r1 v19 (0 : Int32) σ18) fun r21 σ22 => (if r21 = (-2 : Int32) then jn (fun (v23 : Int32) => (bd (dc_X9_fund (3 : Int32) r1 v23 (0 : Int32) σ22) fun r25 σ26 => (if r25 = (-1 : Int32) then some ((1 : Int32), σ26) else some ((0 : Int32), σ26)))) (fun k24 => (if r5 = (1 : Int32) then k24 (1 : Int32) else k24 (0 : Int32))) else some ((0 : Int32), σ22)))) (fun k20 => (if r5 = (1 : Int32) then k20 (1 : Int32) else k20 (0 : Int32))) else some ((0 : Int32), σ18)))) (fun k16 => (if r5 = (1 : Int32) then k16 (1 : Int32) else k16 (0 : Int32)))) (fun k14 => (if 0 < (σ12.1 336 0 (((11 : Int32) * r1) + (3 : Int32)).toNatClampNeg) then k14  else (if ((σ6.1 336 0 ((11 : Int32) * r1).toNatClampNeg) - r7) < v11 then k14  else (if inb ((3 : Int32) * r3) 9 then (if v11 ≤ (σ12.1 320 0 ((3 : Int32) * r3).toNatClampNeg) then (if inb (2 : Int32) 9 then (if (σ12.1 304 0 (2 : Int32).toNatClampNeg) = (10 : Int32) then (bd (dc_X9_loan r1 (9 : Int32) σ12) fun r40 σ41 => (if r40 = ((σ6.1 336 0 ((11 : Int32) * r1).toNatClampNeg) - r7) then some ((1 : Int32), σ41) else some ((0 : Int32), σ41))) else (if inb (2 : Int32) 9 then (if inb ((6 : Int32) * (σ12.1 304 0 (2 : Int32).toNatClampNeg)) 60 then (if inb (((6 : Int32) * (σ12.1 304 0 (2 : Int32).toNatClampNeg)) + (1 : Int32)) 60 then (lt (up (up σ12 352 0 ((6 : Int32) * (σ12.1 304 0 (2 : Int32).toNatClampNeg)).toNatClampNeg r3) 352 0 (((6 : Int32) * (σ12.1 304 0 (2 : Int32).toNatClampNeg)) + (1 : Int32)).toNatClampNeg r1) fun σ27 => (if inb (((6 : Int32) * (σ12.1 304 0 (2 : Int32).toNatClampNeg)) + (2 : Int32)) 60 then (if inb (((6 : Int32) * (σ12.1 304 0 (2 : Int32).toNatClampNeg)) + (3 : Int32)) 60 then (lt (up (up σ27 352 0 (((6 : Int32) * (σ12.1 304 0 (2 : Int32).toNatClampNeg)) + (2 : Int32)).toNatClampNeg r5) 352 0 (((6 : Int32) * (σ12.1 304 0 (2 : Int32).toNatClampNeg)) + (3 : Int32)).toNatClampNeg v11) fun σ28 => (if inb (((6 : Int32) * (σ12.1 304 0 (2 : Int32).toNatClampNeg)) + (4 : Int32)) 60 then (if inb (((6 : Int32) * (σ12.1 304 0 (2 : Int32).toNatClampNeg)) + (5 : Int32)) 60 then (lt (up (up σ28 352 0 (((6 : Int32) * (σ12.1 304 0 (2 : Int32).toNatClampNeg)) + (4 : Int32)).toNatClampNeg (0 : Int32)) 352 0 (((6 : Int32) * (σ12.1 304 0 (2 : Int32).toNatClampNeg)) + (5 : Int32)).toNatClampNeg (0 : Int32)) fun σ29 => (if inb (2 : Int32) 9 then (if inb (σ29.1 304 0 (2 : Int32).toNatClampNeg) 10 then (if inb (2 : Int32) 9 then (if inb (2 : Int32) 9 then (lt (up (up σ29 368 0 (σ29.1 304 0 (2 : Int32).toNatClampNeg).toNatClampNeg v11) 304 0 (2 : Int32).toNatClampNeg (((up σ29 368 0 (σ29.1 304 0 (2 : Int32).toNatClampNeg).toNatClampNeg v11).1 304 0 (2 : Int32).toNatClampNeg) + (1 : Int32))) fun σ30 => (if inb ((3 : Int32) * r3) 9 then (if inb ((3 : Int32) * r3) 9 then jn (fun (σ31 : Sto) => jn (fun (v33 : Int32) => (bd (dc_X9_fund r3 r1 v33 v11 σ31) fun r35 σ36 => (if r35 = (((σ6.1 336 0 ((11 : Int32) * r1).toNatClampNeg) - r7) - v11) then some ((1 : Int32), σ36) else some ((0 : Int32), σ36)))) (fun k34 => (if r5 = (1 : Int32) then k34 (1 : Int32) else k34 (0 : Int32)))) (fun k32 => (if ((σ6.1 336 0 ((11 : Int32) * r1).toNatClampNeg) - r7) = v11 then (if inb (((11 : Int32) * r1) + (3 : Int32)) 44 then (lt (up (up σ30 320 0 ((3 : Int32) * r3).toNatClampNeg ((σ30.1 320 0 ((3 : Int32) * r3).toNatClampNeg) - v11)) 336 0 (((11 : Int32) * r1) + (3 : Int32)).toNatClampNeg (1 : Int32)) fun σ37 => (if inb ((11 : Int32) * r1) 44 then (if inb (((11 : Int32) * r1) + (4 : Int32)) 44 then (if inb ((11 : Int32) * r1) 44 then (if inb (((11 : Int32) * r1) + (2 : Int32)) 44 then (if ¬ ((up σ37 336 0 (((11 : Int32) * r1) + (4 : Int32)).toNatClampNeg (σ37.1 336 0 ((11 : Int32) * r1).toNatClampNeg)).1 336 0 (((11 : Int32) * r1) + (2 : Int32)).toNatClampNeg) = 0 then (if inb ((11 : Int32) * r1) 44 then (if inb (((11 : Int32) * r1) + (2 : Int32)) 44 then (if ¬ ((up σ37 336 0 (((11 : Int32) * r1) + (4 : Int32)).toNatClampNeg (σ37.1 336 0 ((11 : Int32) * r1).toNatClampNeg)).1 336 0 (((11 : Int32) * r1) + (2 : Int32)).toNatClampNeg) = 0 then (if (((up σ37 336 0 (((11 : Int32) * r1) + (4 : Int32)).toNatClampNeg (σ37.1 336 0 ((11 : Int32) * r1).toNatClampNeg)).1 336 0 ((11 : Int32) * r1).toNatClampNeg) - ((up σ37 336 0 (((11 : Int32) * r1) + (4 : Int32)).toNatClampNeg (σ37.1 336 0 ((11 : Int32) * r1).toNatClampNeg)).1 336 0 ((11 : Int32) * r1).toNatClampNeg) / ((up σ37 336 0 (((11 : Int32) * r1) + (4 : Int32)).toNatClampNeg (σ37.1 336 0 ((11 : Int32) * r1).toNatClampNeg)).1 336 0 (((11 : Int32) * r1) + (2 : Int32)).toNatClampNeg) * ((up σ37 336 0 (((11 : Int32) * r1) + (4 : Int32)).toNatClampNeg (σ37.1 336 0 ((11 : Int32) * r1).toNatClampNeg)).1 336 0 (((11 : Int32) * r1) + (2 : Int32)).toNatClampNeg)) ≤ 0 then (if inb (((11 : Int32) * r1) + (5 : Int32)) 44 then (lt (up (up σ37 336 0 (((11 : Int32) * r1) + (4 : Int32)).toNatClampNeg (σ37.1 336 0 ((11 : Int32) * r1).toNatClampNeg)) 336 0 (((11 : Int32) * r1) + (5 : Int32)).toNatClampNeg ((((up σ37 336 0 (((11 : Int32) * r1) + (4 : Int32)).toNatClampNeg (σ37.1 336 0 ((11 : Int32) * r1).toNatClampNeg)).1 336 0 ((11 : Int32) * r1).toNatClampNeg) / ((up σ37 336 0 (((11 : Int32) * r1) + (4 : Int32)).toNatClampNeg (σ37.1 336 0 ((11 : Int32) * r1).toNatClampNeg)).1 336 0 (((11 : Int32) * r1) + (2 : Int32)).toNatClampNeg)) + (0 : Int32))) fun σ38 => k32 σ38) else none) else (if inb (((11 : Int32) * r1) + (5 : Int32)) 44 then (lt (up (up σ37 336 0 (((11 : Int32) * r1) + (4 : Int32)).toNatClampNeg (σ37.1 336 0 ((11 : Int32) * r1).toNatClampNeg)) 336 0 (((11 : Int32) * r1) + (5 : Int32)).toNatClampNeg ((((up σ37 336 0 (((11 : Int32) * r1) + (4 : Int32)).toNatClampNeg (σ37.1 336 0 ((11 : Int32) * r1).toNatClampNeg)).1 336 0 ((11 : Int32) * r1).toNatClampNeg) / ((up σ37 336 0 (((11 : Int32) * r1) + (4 : Int32)).toNatClampNeg (σ37.1 336 0 ((11 : Int32) * r1).toNatClampNeg)).1 336 0 (((11 : Int32) * r1) + (2 : Int32)).toNatClampNeg)) + (1 : Int32))) fun σ39 => k32 σ39) else none)) else none) else none) else none) else none) else none) else none) else none) else none)) else none) else k32 (up σ30 320 0 ((3 : Int32) * r3).toNatClampNeg ((σ30.1 320 0 ((3 : Int32) * r3).toNatClampNeg) - v11)))) else none) else none)) else none) else none) else none) else none)) else none) else none)) else none) else none)) else none) else none) else none)) else none) else k14 ) else none)))) else none)) (fun k13 => jn ((bd (dc_L_low (a6 >>> ((7 : Int32) &&& 31)) (400 : Int32) σ10) fun r43 σ44 => k13 ((1 : Int32) + r43) σ44)) (fun k42 => (if r9 = 0 then (if ((σ6.1 336 0 ((11 : Int32) * r1).toNatClampNeg) - r7) ≤ 0 then k42  else (if inb (((11 : Int32) * r1) + (3 : Int32)) 44 then (if (σ10.1 336 0 (((11 : Int32) * r1) + (3 : Int32)).toNatClampNeg) = 0 then k13 ((σ6.1 336 0 ((11 : Int32) * r1).toNatClampNeg) - r7) σ10 else k42 ) else none)) else k42 ))))) else none)))) else none)
set_option maxRecDepth 20000 in
set_option maxHeartbeats 4000000 in
theorem s_L_isFunded {G : Gm} {d : Nat} (a6 : Int32) {σ τ : Sto} {r : Int32} (h : dc_L_isFunded a6 σ = some (r, τ)) : Cl G (d + 5) m_L_isFunded [.ref (ad G 9 0 0), .ref (ad G 19 0 0), .ref (ad G 20 0 0), .ref (ad G 21 0 0), .ref (ad G 22 0 0), .ref (ad G 23 0 0), .int a6] σ (some (.int r)) τ := by
  unfold dc_L_isFunded at h
  refine Cl.mk (cc := cL_isFunded) (own := RL) (nL := 13) (ret := (some .boolean)) rfl rfl rfl rfl (by decide +kernel) (catA rfl) (Nat.le_of_ble_eq_true rfl) (fun X C => ?_)
  show V X G 0 0 (QE X G (some (.int r)) τ) σ 0 [some (.ref (ad G 9 0 0)), some (.ref (ad G 19 0 0)), some (.ref (ad G 20 0 0)), some (.ref (ad G 21 0 0)), some (.ref (ad G 22 0 0)), some (.ref (ad G 23 0 0)), some (.int a6), none, none, none, none, none, none] []
  refine v_iload C dL_isFunded_0 rfl ?_
  refine v_aload_n C dL_isFunded_2 rfl rfl ?_
  refine v_iconst C dL_isFunded_3 ki_1 ?_
  refine ld_19 C dL_isFunded_4 h (fun h => ?_)
  refine cSi C (av := [.int a6, .int (σ.1 304 0 (1 : Int32).toNatClampNeg)]) si_L_low lk_L_41 rfl rfl (st := []) rfl (Nat.le_of_ble_eq_true rfl) dL_isFunded_5 h (fun _ _ hc => s_L_low (d := (d + 4)) a6 (σ.1 304 0 (1 : Int32).toNatClampNeg)  hc) (fun r1 σ2 h => ?_)
  refine v_istore C dL_isFunded_8 (Nat.le_of_ble_eq_true rfl) (lc1 := [some (.ref (ad G 9 0 0)), some (.ref (ad G 19 0 0)), some (.ref (ad G 20 0 0)), some (.ref (ad G 21 0 0)), some (.ref (ad G 22 0 0)), some (.ref (ad G 23 0 0)), some (.int a6), some (.int r1), none, none, none, none, none]) rfl ?_
  refine v_iload C dL_isFunded_10 rfl ?_
  refine v_iconst C dL_isFunded_12 ki_3 ?_
  refine v_ishr C dL_isFunded_13 ?_
  refine v_iconst C dL_isFunded_14 ki_3 ?_
  refine cSi C (av := [.int (a6 >>> ((3 : Int32) &&& 31)), .int (3 : Int32)]) si_L_low lk_L_41 rfl rfl (st := []) rfl (Nat.le_of_ble_eq_true rfl) dL_isFunded_15 h (fun _ _ hc => s_L_low (d := (d + 4)) (a6 >>> ((3 : Int32) &&& 31)) (3 : Int32)  hc) (fun r3 σ4 h => ?_)
  refine v_istore C dL_isFunded_18 (Nat.le_of_ble_eq_true rfl) (lc1 := [some (.ref (ad G 9 0 0)), some (.ref (ad G 19 0 0)), some (.ref (ad G 20 0 0)), some (.ref (ad G 21 0 0)), some (.ref (ad G 22 0 0)), some (.ref (ad G 23 0 0)), some (.int a6), some (.int r1), some (.int r3), none, none, none, none]) rfl ?_
  refine v_iload C dL_isFunded_20 rfl ?_
  refine v_iconst C dL_isFunded_22 ki_5 ?_
  refine v_ishr C dL_isFunded_23 ?_
  refine v_iconst C dL_isFunded_24 ki_2 ?_
  refine cSi C (av := [.int (a6 >>> ((5 : Int32) &&& 31)), .int (2 : Int32)]) si_L_low lk_L_41 rfl rfl (st := []) rfl (Nat.le_of_ble_eq_true rfl) dL_isFunded_25 h (fun _ _ hc => s_L_low (d := (d + 4)) (a6 >>> ((5 : Int32) &&& 31)) (2 : Int32)  hc) (fun r5 σ6 h => ?_)
  refine v_istore C dL_isFunded_28 (Nat.le_of_ble_eq_true rfl) (lc1 := [some (.ref (ad G 9 0 0)), some (.ref (ad G 19 0 0)), some (.ref (ad G 20 0 0)), some (.ref (ad G 21 0 0)), some (.ref (ad G 22 0 0)), some (.ref (ad G 23 0 0)), some (.int a6), some (.int r1), some (.int r3), some (.int r5), none, none, none]) rfl ?_
  refine v_aload_n C dL_isFunded_30 rfl rfl ?_
  refine v_bipush C dL_isFunded_31 kb_11 ?_
  refine v_iload C dL_isFunded_33 rfl ?_
  refine v_imul C dL_isFunded_35 ?_
  refine ld_21 C dL_isFunded_36 h (fun h => ?_)
  refine v_aload_n C dL_isFunded_37 rfl rfl ?_
  refine v_aload C dL_isFunded_38 rfl ?_
  refine v_iload C dL_isFunded_40 rfl ?_
  refine v_iconst C dL_isFunded_42 ki_m1 ?_
  refine cSi C (av := [.ref (ad G 19 0 0), .ref (ad G 22 0 0), .int r1, .int (-1 : Int32)]) si_L_principals lk_L_9 rfl rfl (st := [.int (σ6.1 336 0 ((11 : Int32) * r1).toNatClampNeg)]) rfl (Nat.le_of_ble_eq_true rfl) dL_isFunded_43 h (fun _ _ hc => s_L_principals (d := (d + 4)) r1 (-1 : Int32)  hc) (fun r7 σ8 h => ?_)
  refine v_isub C dL_isFunded_46 ?_
  refine v_istore C dL_isFunded_47 (Nat.le_of_ble_eq_true rfl) (lc1 := [some (.ref (ad G 9 0 0)), some (.ref (ad G 19 0 0)), some (.ref (ad G 20 0 0)), some (.ref (ad G 21 0 0)), some (.ref (ad G 22 0 0)), some (.ref (ad G 23 0 0)), some (.int a6), some (.int r1), some (.int r3), some (.int r5), some (.int ((σ6.1 336 0 ((11 : Int32) * r1).toNatClampNeg) - r7)), none, none]) rfl ?_
  refine v_iload C dL_isFunded_49 rfl ?_
  refine v_bipush C dL_isFunded_51 kb_6 ?_
  refine v_ishr C dL_isFunded_53 ?_
  refine v_iconst C dL_isFunded_54 ki_2 ?_
  refine cSi C (av := [.int (a6 >>> ((6 : Int32) &&& 31)), .int (2 : Int32)]) si_L_low lk_L_41 rfl rfl (st := []) rfl (Nat.le_of_ble_eq_true rfl) dL_isFunded_55 h (fun _ _ hc => s_L_low (d := (d + 4)) (a6 >>> ((6 : Int32) &&& 31)) (2 : Int32)  hc) (fun r9 σ10 h => ?_)
  refine v_join (fun k => ∀ (v11 : Int32) (σ12 : Sto), k v11 σ12 = some (r, τ) → V X G 0 0 (QE X G (some (.int r)) τ) σ12 96 [some (.ref (ad G 9 0 0)), some (.ref (ad G 19 0 0)), some (.ref (ad G 20 0 0)), some (.ref (ad G 21 0 0)), some (.ref (ad G 22 0 0)), some (.ref (ad G 23 0 0)), some (.int a6), some (.int r1), some (.int r3), some (.int r5), some (.int ((σ6.1 336 0 ((11 : Int32) * r1).toNatClampNeg) - r7)), none, none] [.int v11]) h (fun v11 σ12 h => ?_) (fun k13 hk13 h => ?_)
  · refine v_istore C dL_isFunded_96 (Nat.le_of_ble_eq_true rfl) (lc1 := [some (.ref (ad G 9 0 0)), some (.ref (ad G 19 0 0)), some (.ref (ad G 20 0 0)), some (.ref (ad G 21 0 0)), some (.ref (ad G 22 0 0)), some (.ref (ad G 23 0 0)), some (.int a6), some (.int r1), some (.int r3), some (.int r5), some (.int ((σ6.1 336 0 ((11 : Int32) * r1).toNatClampNeg) - r7)), some (.int v11), none]) rfl ?_
    refine v_aload_n C dL_isFunded_98 rfl rfl ?_
    refine v_bipush C dL_isFunded_99 kb_11 ?_
    refine v_iload C dL_isFunded_101 rfl ?_
    refine v_imul C dL_isFunded_103 ?_
    refine v_iconst C dL_isFunded_104 ki_3 ?_
    refine v_iadd C dL_isFunded_105 ?_
    refine ld_21 C dL_isFunded_106 h (fun h => ?_)
    refine v_join (fun k => k = some (r, τ) → V X G 0 0 (QE X G (some (.int r)) τ) σ12 128 [some (.ref (ad G 9 0 0)), some (.ref (ad G 19 0 0)), some (.ref (ad G 20 0 0)), some (.ref (ad G 21 0 0)), some (.ref (ad G 22 0 0)), some (.ref (ad G 23 0 0)), some (.int a6), some (.int r1), some (.int r3), some (.int r5), some (.int ((σ6.1 336 0 ((11 : Int32) * r1).toNatClampNeg) - r7)), some (.int v11), none] []) h (fun h => ?_) (fun k14 hk14 h => ?_)
    · refine v_aload_n C dL_isFunded_128 rfl rfl ?_
      refine v_iload C dL_isFunded_129 rfl ?_
      refine v_iload C dL_isFunded_131 rfl ?_
      refine v_iload C dL_isFunded_133 rfl ?_
      refine v_iconst C dL_isFunded_135 ki_1 ?_
      refine v_join (fun k => ∀ (v15 : Int32), k v15 = some (r, τ) → V X G 0 0 (QE X G (some (.int r)) τ) σ12 144 [some (.ref (ad G 9 0 0)), some (.ref (ad G 19 0 0)), some (.ref (ad G 20 0 0)), some (.ref (ad G 21 0 0)), some (.ref (ad G 22 0 0)), some (.ref (ad G 23 0 0)), some (.int a6), some (.int r1), some (.int r3), some (.int r5), some (.int ((σ6.1 336 0 ((11 : Int32) * r1).toNatClampNeg) - r7)), some (.int v11), none] [.int v15, .int r1, .int r3, .ref (ad G 9 0 0)]) h (fun v15 h => ?_) (fun k16 hk16 h => ?_)
      · refine v_iload C dL_isFunded_144 rfl ?_
        refine cVi C 9 0 0 (av := [.int r3, .int r1, .int v15, .int v11]) si_X9_fund lk_L_44 (ok9) rfl rfl rfl rfl (st := []) rfl (Nat.le_of_ble_eq_true rfl) dL_isFunded_146 h (fun _ _ hc => s_X9_fund (d := d) r3 r1 v15 v11  hc) (fun r17 σ18 h => ?_)
        refine v_bipush C dL_isFunded_149 kb_m4 ?_
        refine v_icmp_ne C dL_isFunded_151 (tgt := 206) (by decide) h (fun h => ?_) (fun h => ?_)
        · refine v_iconst C dL_isFunded_206 ki_0 ?_
          exact v_zretc C dL_isFunded_207 (nar01 (Or.inl rfl)) h
        · refine v_aload_n C dL_isFunded_154 rfl rfl ?_
          refine v_iload C dL_isFunded_155 rfl ?_
          refine v_iload C dL_isFunded_157 rfl ?_
          refine v_iload C dL_isFunded_159 rfl ?_
          refine v_iconst C dL_isFunded_161 ki_1 ?_
          refine v_join (fun k => ∀ (v19 : Int32), k v19 = some (r, τ) → V X G 0 0 (QE X G (some (.int r)) τ) σ18 170 [some (.ref (ad G 9 0 0)), some (.ref (ad G 19 0 0)), some (.ref (ad G 20 0 0)), some (.ref (ad G 21 0 0)), some (.ref (ad G 22 0 0)), some (.ref (ad G 23 0 0)), some (.int a6), some (.int r1), some (.int r3), some (.int r5), some (.int ((σ6.1 336 0 ((11 : Int32) * r1).toNatClampNeg) - r7)), some (.int v11), none] [.int v19, .int r1, .int r3, .ref (ad G 9 0 0)]) h (fun v19 h => ?_) (fun k20 hk20 h => ?_)
          · refine v_iconst C dL_isFunded_170 ki_0 ?_
            refine cVi C 9 0 0 (av := [.int r3, .int r1, .int v19, .int (0 : Int32)]) si_X9_fund lk_L_44 (ok9) rfl rfl rfl rfl (st := []) rfl (Nat.le_of_ble_eq_true rfl) dL_isFunded_171 h (fun _ _ hc => s_X9_fund (d := d) r3 r1 v19 (0 : Int32)  hc) (fun r21 σ22 h => ?_)
            refine v_bipush C dL_isFunded_174 kb_m2 ?_
            refine v_icmp_ne C dL_isFunded_176 (tgt := 206) (by decide) h (fun h => ?_) (fun h => ?_)
            · refine v_iconst C dL_isFunded_206 ki_0 ?_
              exact v_zretc C dL_isFunded_207 (nar01 (Or.inl rfl)) h
            · refine v_aload_n C dL_isFunded_179 rfl rfl ?_
              refine v_iconst C dL_isFunded_180 ki_3 ?_
              refine v_iload C dL_isFunded_181 rfl ?_
              refine v_iload C dL_isFunded_183 rfl ?_
              refine v_iconst C dL_isFunded_185 ki_1 ?_
              refine v_join (fun k => ∀ (v23 : Int32), k v23 = some (r, τ) → V X G 0 0 (QE X G (some (.int r)) τ) σ22 194 [some (.ref (ad G 9 0 0)), some (.ref (ad G 19 0 0)), some (.ref (ad G 20 0 0)), some (.ref (ad G 21 0 0)), some (.ref (ad G 22 0 0)), some (.ref (ad G 23 0 0)), some (.int a6), some (.int r1), some (.int r3), some (.int r5), some (.int ((σ6.1 336 0 ((11 : Int32) * r1).toNatClampNeg) - r7)), some (.int v11), none] [.int v23, .int r1, .int (3 : Int32), .ref (ad G 9 0 0)]) h (fun v23 h => ?_) (fun k24 hk24 h => ?_)
              · refine v_iconst C dL_isFunded_194 ki_0 ?_
                refine cVi C 9 0 0 (av := [.int (3 : Int32), .int r1, .int v23, .int (0 : Int32)]) si_X9_fund lk_L_44 (ok9) rfl rfl rfl rfl (st := []) rfl (Nat.le_of_ble_eq_true rfl) dL_isFunded_195 h (fun _ _ hc => s_X9_fund (d := d) (3 : Int32) r1 v23 (0 : Int32)  hc) (fun r25 σ26 h => ?_)
                refine v_iconst C dL_isFunded_198 ki_m1 ?_
                refine v_icmp_ne C dL_isFunded_199 (tgt := 206) (by decide) h (fun h => ?_) (fun h => ?_)
                · refine v_iconst C dL_isFunded_206 ki_0 ?_
                  exact v_zretc C dL_isFunded_207 (nar01 (Or.inl rfl)) h
                · refine v_iconst C dL_isFunded_202 ki_1 ?_
                  refine v_goto C dL_isFunded_203 (tgt := 207) (by decide) ?_
                  exact v_zretc C dL_isFunded_207 (nar01 (Or.inr rfl)) h
              · refine v_icmp_ne C dL_isFunded_186 (tgt := 193) (by decide) h (fun h => ?_) (fun h => ?_)
                · refine v_iconst C dL_isFunded_193 ki_0 ?_
                  refine v_mask [true, true, true, true, true, true, true, true, true, true, true, true, false] (lc' := [some (.ref (ad G 9 0 0)), some (.ref (ad G 19 0 0)), some (.ref (ad G 20 0 0)), some (.ref (ad G 21 0 0)), some (.ref (ad G 22 0 0)), some (.ref (ad G 23 0 0)), some (.int a6), some (.int r1), some (.int r3), some (.int r5), some (.int ((σ6.1 336 0 ((11 : Int32) * r1).toNatClampNeg) - r7)), some (.int v11), none]) rfl ?_
                  exact hk24 _ h
                · refine v_iconst C dL_isFunded_189 ki_1 ?_
                  refine v_goto C dL_isFunded_190 (tgt := 194) (by decide) ?_
                  refine v_mask [true, true, true, true, true, true, true, true, true, true, true, true, false] (lc' := [some (.ref (ad G 9 0 0)), some (.ref (ad G 19 0 0)), some (.ref (ad G 20 0 0)), some (.ref (ad G 21 0 0)), some (.ref (ad G 22 0 0)), some (.ref (ad G 23 0 0)), some (.int a6), some (.int r1), some (.int r3), some (.int r5), some (.int ((σ6.1 336 0 ((11 : Int32) * r1).toNatClampNeg) - r7)), some (.int v11), none]) rfl ?_
                  exact hk24 _ h
          · refine v_icmp_ne C dL_isFunded_162 (tgt := 169) (by decide) h (fun h => ?_) (fun h => ?_)
            · refine v_iconst C dL_isFunded_169 ki_0 ?_
              refine v_mask [true, true, true, true, true, true, true, true, true, true, true, true, false] (lc' := [some (.ref (ad G 9 0 0)), some (.ref (ad G 19 0 0)), some (.ref (ad G 20 0 0)), some (.ref (ad G 21 0 0)), some (.ref (ad G 22 0 0)), some (.ref (ad G 23 0 0)), some (.int a6), some (.int r1), some (.int r3), some (.int r5), some (.int ((σ6.1 336 0 ((11 : Int32) * r1).toNatClampNeg) - r7)), some (.int v11), none]) rfl ?_
              exact hk20 _ h
            · refine v_iconst C dL_isFunded_165 ki_1 ?_
              refine v_goto C dL_isFunded_166 (tgt := 170) (by decide) ?_
              refine v_mask [true, true, true, true, true, true, true, true, true, true, true, true, false] (lc' := [some (.ref (ad G 9 0 0)), some (.ref (ad G 19 0 0)), some (.ref (ad G 20 0 0)), some (.ref (ad G 21 0 0)), some (.ref (ad G 22 0 0)), some (.ref (ad G 23 0 0)), some (.int a6), some (.int r1), some (.int r3), some (.int r5), some (.int ((σ6.1 336 0 ((11 : Int32) * r1).toNatClampNeg) - r7)), some (.int v11), none]) rfl ?_
              exact hk20 _ h
      · refine v_icmp_ne C dL_isFunded_136 (tgt := 143) (by decide) h (fun h => ?_) (fun h => ?_)
        · refine v_iconst C dL_isFunded_143 ki_0 ?_
          refine v_mask [true, true, true, true, true, true, true, true, true, true, true, true, false] (lc' := [some (.ref (ad G 9 0 0)), some (.ref (ad G 19 0 0)), some (.ref (ad G 20 0 0)), some (.ref (ad G 21 0 0)), some (.ref (ad G 22 0 0)), some (.ref (ad G 23 0 0)), some (.int a6), some (.int r1), some (.int r3), some (.int r5), some (.int ((σ6.1 336 0 ((11 : Int32) * r1).toNatClampNeg) - r7)), some (.int v11), none]) rfl ?_
          exact hk16 _ h
        · refine v_iconst C dL_isFunded_139 ki_1 ?_
          refine v_goto C dL_isFunded_140 (tgt := 144) (by decide) ?_
          refine v_mask [true, true, true, true, true, true, true, true, true, true, true, true, false] (lc' := [some (.ref (ad G 9 0 0)), some (.ref (ad G 19 0 0)), some (.ref (ad G 20 0 0)), some (.ref (ad G 21 0 0)), some (.ref (ad G 22 0 0)), some (.ref (ad G 23 0 0)), some (.int a6), some (.int r1), some (.int r3), some (.int r5), some (.int ((σ6.1 336 0 ((11 : Int32) * r1).toNatClampNeg) - r7)), some (.int v11), none]) rfl ?_
          exact hk16 _ h
    · refine v_if_gt C dL_isFunded_107 (tgt := 128) (by decide) h (fun h => ?_) (fun h => ?_)
      · refine v_mask [true, true, true, true, true, true, true, true, true, true, true, true, false] (lc' := [some (.ref (ad G 9 0 0)), some (.ref (ad G 19 0 0)), some (.ref (ad G 20 0 0)), some (.ref (ad G 21 0 0)), some (.ref (ad G 22 0 0)), some (.ref (ad G 23 0 0)), some (.int a6), some (.int r1), some (.int r3), some (.int r5), some (.int ((σ6.1 336 0 ((11 : Int32) * r1).toNatClampNeg) - r7)), some (.int v11), none]) rfl ?_
        exact hk14 h
      · refine v_iload C dL_isFunded_110 rfl ?_
        refine v_iload C dL_isFunded_112 rfl ?_
        refine v_icmp_lt C dL_isFunded_114 (tgt := 128) (by decide) h (fun h => ?_) (fun h => ?_)
        · refine v_mask [true, true, true, true, true, true, true, true, true, true, true, true, false] (lc' := [some (.ref (ad G 9 0 0)), some (.ref (ad G 19 0 0)), some (.ref (ad G 20 0 0)), some (.ref (ad G 21 0 0)), some (.ref (ad G 22 0 0)), some (.ref (ad G 23 0 0)), some (.int a6), some (.int r1), some (.int r3), some (.int r5), some (.int ((σ6.1 336 0 ((11 : Int32) * r1).toNatClampNeg) - r7)), some (.int v11), none]) rfl ?_
          exact hk14 h
        · refine v_aload_n C dL_isFunded_117 rfl rfl ?_
          refine v_iconst C dL_isFunded_118 ki_3 ?_
          refine v_iload C dL_isFunded_119 rfl ?_
          refine v_imul C dL_isFunded_121 ?_
          refine ld_20 C dL_isFunded_122 h (fun h => ?_)
          refine v_iload C dL_isFunded_123 rfl ?_
          refine v_icmp_ge C dL_isFunded_125 (tgt := 208) (by decide) h (fun h => ?_) (fun h => ?_)
          · refine v_aload_n C dL_isFunded_208 rfl rfl ?_
            refine v_iconst C dL_isFunded_209 ki_2 ?_
            refine ld_19 C dL_isFunded_210 h (fun h => ?_)
            refine v_bipush C dL_isFunded_211 kb_10 ?_
            refine v_icmp_ne C dL_isFunded_213 (tgt := 235) (by decide) h (fun h => ?_) (fun h => ?_)
            · refine v_bipush C dL_isFunded_235 kb_6 ?_
              refine v_aload_n C dL_isFunded_237 rfl rfl ?_
              refine v_iconst C dL_isFunded_238 ki_2 ?_
              refine ld_19 C dL_isFunded_239 h (fun h => ?_)
              refine v_imul C dL_isFunded_240 ?_
              refine v_istore C dL_isFunded_241 (Nat.le_of_ble_eq_true rfl) (lc1 := [some (.ref (ad G 9 0 0)), some (.ref (ad G 19 0 0)), some (.ref (ad G 20 0 0)), some (.ref (ad G 21 0 0)), some (.ref (ad G 22 0 0)), some (.ref (ad G 23 0 0)), some (.int a6), some (.int r1), some (.int r3), some (.int r5), some (.int ((σ6.1 336 0 ((11 : Int32) * r1).toNatClampNeg) - r7)), some (.int v11), some (.int ((6 : Int32) * (σ12.1 304 0 (2 : Int32).toNatClampNeg)))]) rfl ?_
              refine v_aload C dL_isFunded_243 rfl ?_
              refine v_iload C dL_isFunded_245 rfl ?_
              refine v_iload C dL_isFunded_247 rfl ?_
              refine as_22 C dL_isFunded_249 h (fun h => ?_)
              refine v_aload C dL_isFunded_250 rfl ?_
              refine v_iload C dL_isFunded_252 rfl ?_
              refine v_iconst C dL_isFunded_254 ki_1 ?_
              refine v_iadd C dL_isFunded_255 ?_
              refine v_iload C dL_isFunded_256 rfl ?_
              refine as_22 C dL_isFunded_258 h (fun h => ?_)
              refine v_lt h (fun σ27 h => ?_)
              refine v_aload C dL_isFunded_259 rfl ?_
              refine v_iload C dL_isFunded_261 rfl ?_
              refine v_iconst C dL_isFunded_263 ki_2 ?_
              refine v_iadd C dL_isFunded_264 ?_
              refine v_iload C dL_isFunded_265 rfl ?_
              refine as_22 C dL_isFunded_267 h (fun h => ?_)
              refine v_aload C dL_isFunded_268 rfl ?_
              refine v_iload C dL_isFunded_270 rfl ?_
              refine v_iconst C dL_isFunded_272 ki_3 ?_
              refine v_iadd C dL_isFunded_273 ?_
              refine v_iload C dL_isFunded_274 rfl ?_
              refine as_22 C dL_isFunded_276 h (fun h => ?_)
              refine v_lt h (fun σ28 h => ?_)
              refine v_aload C dL_isFunded_277 rfl ?_
              refine v_iload C dL_isFunded_279 rfl ?_
              refine v_iconst C dL_isFunded_281 ki_4 ?_
              refine v_iadd C dL_isFunded_282 ?_
              refine v_iconst C dL_isFunded_283 ki_0 ?_
              refine as_22 C dL_isFunded_284 h (fun h => ?_)
              refine v_aload C dL_isFunded_285 rfl ?_
              refine v_iload C dL_isFunded_287 rfl ?_
              refine v_iconst C dL_isFunded_289 ki_5 ?_
              refine v_iadd C dL_isFunded_290 ?_
              refine v_iconst C dL_isFunded_291 ki_0 ?_
              refine as_22 C dL_isFunded_292 h (fun h => ?_)
              refine v_lt h (fun σ29 h => ?_)
              refine v_aload C dL_isFunded_293 rfl ?_
              refine v_aload_n C dL_isFunded_295 rfl rfl ?_
              refine v_iconst C dL_isFunded_296 ki_2 ?_
              refine ld_19 C dL_isFunded_297 h (fun h => ?_)
              refine v_iload C dL_isFunded_298 rfl ?_
              refine as_23 C dL_isFunded_300 h (fun h => ?_)
              refine v_aload_n C dL_isFunded_301 rfl rfl ?_
              refine v_iconst C dL_isFunded_302 ki_2 ?_
              refine v_dup2 C dL_isFunded_303 rfl rfl ?_
              refine ld_19 C dL_isFunded_304 h (fun h => ?_)
              refine v_iconst C dL_isFunded_305 ki_1 ?_
              refine v_iadd C dL_isFunded_306 ?_
              refine as_19 C dL_isFunded_307 h (fun h => ?_)
              refine v_lt h (fun σ30 h => ?_)
              refine v_aload_n C dL_isFunded_308 rfl rfl ?_
              refine v_iconst C dL_isFunded_309 ki_3 ?_
              refine v_iload C dL_isFunded_310 rfl ?_
              refine v_imul C dL_isFunded_312 ?_
              refine v_dup2 C dL_isFunded_313 rfl rfl ?_
              refine ld_20 C dL_isFunded_314 h (fun h => ?_)
              refine v_iload C dL_isFunded_315 rfl ?_
              refine v_isub C dL_isFunded_317 ?_
              refine as_20 C dL_isFunded_318 h (fun h => ?_)
              refine v_iload C dL_isFunded_319 rfl ?_
              refine v_iload C dL_isFunded_321 rfl ?_
              refine v_join (fun k => ∀ (σ31 : Sto), k σ31 = some (r, τ) → V X G 0 0 (QE X G (some (.int r)) τ) σ31 404 [some (.ref (ad G 9 0 0)), some (.ref (ad G 19 0 0)), some (.ref (ad G 20 0 0)), some (.ref (ad G 21 0 0)), some (.ref (ad G 22 0 0)), some (.ref (ad G 23 0 0)), some (.int a6), some (.int r1), some (.int r3), some (.int r5), some (.int ((σ6.1 336 0 ((11 : Int32) * r1).toNatClampNeg) - r7)), some (.int v11), some (.int ((6 : Int32) * (σ12.1 304 0 (2 : Int32).toNatClampNeg)))] []) h (fun σ31 h => ?_) (fun k32 hk32 h => ?_)
              · refine v_aload_n C dL_isFunded_404 rfl rfl ?_
                refine v_iload C dL_isFunded_405 rfl ?_
                refine v_iload C dL_isFunded_407 rfl ?_
                refine v_iload C dL_isFunded_409 rfl ?_
                refine v_iconst C dL_isFunded_411 ki_1 ?_
                refine v_join (fun k => ∀ (v33 : Int32), k v33 = some (r, τ) → V X G 0 0 (QE X G (some (.int r)) τ) σ31 420 [some (.ref (ad G 9 0 0)), some (.ref (ad G 19 0 0)), some (.ref (ad G 20 0 0)), some (.ref (ad G 21 0 0)), some (.ref (ad G 22 0 0)), some (.ref (ad G 23 0 0)), some (.int a6), some (.int r1), some (.int r3), some (.int r5), some (.int ((σ6.1 336 0 ((11 : Int32) * r1).toNatClampNeg) - r7)), some (.int v11), some (.int ((6 : Int32) * (σ12.1 304 0 (2 : Int32).toNatClampNeg)))] [.int v33, .int r1, .int r3, .ref (ad G 9 0 0)]) h (fun v33 h => ?_) (fun k34 hk34 h => ?_)
                · refine v_iload C dL_isFunded_420 rfl ?_
                  refine cVi C 9 0 0 (av := [.int r3, .int r1, .int v33, .int v11]) si_X9_fund lk_L_44 (ok9) rfl rfl rfl rfl (st := []) rfl (Nat.le_of_ble_eq_true rfl) dL_isFunded_422 h (fun _ _ hc => s_X9_fund (d := d) r3 r1 v33 v11  hc) (fun r35 σ36 h => ?_)
                  refine v_iload C dL_isFunded_425 rfl ?_
                  refine v_iload C dL_isFunded_427 rfl ?_
                  refine v_isub C dL_isFunded_429 ?_
                  refine v_icmp_ne C dL_isFunded_430 (tgt := 437) (by decide) h (fun h => ?_) (fun h => ?_)
                  · refine v_iconst C dL_isFunded_437 ki_0 ?_
                    exact v_zretc C dL_isFunded_438 (nar01 (Or.inl rfl)) h
                  · refine v_iconst C dL_isFunded_433 ki_1 ?_
                    refine v_goto C dL_isFunded_434 (tgt := 438) (by decide) ?_
                    exact v_zretc C dL_isFunded_438 (nar01 (Or.inr rfl)) h
                · refine v_icmp_ne C dL_isFunded_412 (tgt := 419) (by decide) h (fun h => ?_) (fun h => ?_)
                  · refine v_iconst C dL_isFunded_419 ki_0 ?_
                    refine v_mask [true, true, true, true, true, true, true, true, true, true, true, true, true] (lc' := [some (.ref (ad G 9 0 0)), some (.ref (ad G 19 0 0)), some (.ref (ad G 20 0 0)), some (.ref (ad G 21 0 0)), some (.ref (ad G 22 0 0)), some (.ref (ad G 23 0 0)), some (.int a6), some (.int r1), some (.int r3), some (.int r5), some (.int ((σ6.1 336 0 ((11 : Int32) * r1).toNatClampNeg) - r7)), some (.int v11), some (.int ((6 : Int32) * (σ12.1 304 0 (2 : Int32).toNatClampNeg)))]) rfl ?_
                    exact hk34 _ h
                  · refine v_iconst C dL_isFunded_415 ki_1 ?_
                    refine v_goto C dL_isFunded_416 (tgt := 420) (by decide) ?_
                    refine v_mask [true, true, true, true, true, true, true, true, true, true, true, true, true] (lc' := [some (.ref (ad G 9 0 0)), some (.ref (ad G 19 0 0)), some (.ref (ad G 20 0 0)), some (.ref (ad G 21 0 0)), some (.ref (ad G 22 0 0)), some (.ref (ad G 23 0 0)), some (.int a6), some (.int r1), some (.int r3), some (.int r5), some (.int ((σ6.1 336 0 ((11 : Int32) * r1).toNatClampNeg) - r7)), some (.int v11), some (.int ((6 : Int32) * (σ12.1 304 0 (2 : Int32).toNatClampNeg)))]) rfl ?_
                    exact hk34 _ h
              · refine v_icmp_ne C dL_isFunded_323 (tgt := 404) (by decide) h (fun h => ?_) (fun h => ?_)
                · refine v_mask [true, true, true, true, true, true, true, true, true, true, true, true, true] (lc' := [some (.ref (ad G 9 0 0)), some (.ref (ad G 19 0 0)), some (.ref (ad G 20 0 0)), some (.ref (ad G 21 0 0)), some (.ref (ad G 22 0 0)), some (.ref (ad G 23 0 0)), some (.int a6), some (.int r1), some (.int r3), some (.int r5), some (.int ((σ6.1 336 0 ((11 : Int32) * r1).toNatClampNeg) - r7)), some (.int v11), some (.int ((6 : Int32) * (σ12.1 304 0 (2 : Int32).toNatClampNeg)))]) rfl ?_
                  exact hk32 _ h
                · refine v_aload_n C dL_isFunded_326 rfl rfl ?_
                  refine v_bipush C dL_isFunded_327 kb_11 ?_
                  refine v_iload C dL_isFunded_329 rfl ?_
                  refine v_imul C dL_isFunded_331 ?_
                  refine v_iconst C dL_isFunded_332 ki_3 ?_
                  refine v_iadd C dL_isFunded_333 ?_
                  refine v_iconst C dL_isFunded_334 ki_1 ?_
                  refine as_21 C dL_isFunded_335 h (fun h => ?_)
                  refine v_lt h (fun σ37 h => ?_)
                  refine v_aload_n C dL_isFunded_336 rfl rfl ?_
                  refine v_bipush C dL_isFunded_337 kb_11 ?_
                  refine v_iload C dL_isFunded_339 rfl ?_
                  refine v_imul C dL_isFunded_341 ?_
                  refine v_iconst C dL_isFunded_342 ki_4 ?_
                  refine v_iadd C dL_isFunded_343 ?_
                  refine v_aload_n C dL_isFunded_344 rfl rfl ?_
                  refine v_bipush C dL_isFunded_345 kb_11 ?_
                  refine v_iload C dL_isFunded_347 rfl ?_
                  refine v_imul C dL_isFunded_349 ?_
                  refine ld_21 C dL_isFunded_350 h (fun h => ?_)
                  refine as_21 C dL_isFunded_351 h (fun h => ?_)
                  refine v_aload_n C dL_isFunded_352 rfl rfl ?_
                  refine v_bipush C dL_isFunded_353 kb_11 ?_
                  refine v_iload C dL_isFunded_355 rfl ?_
                  refine v_imul C dL_isFunded_357 ?_
                  refine v_iconst C dL_isFunded_358 ki_5 ?_
                  refine v_iadd C dL_isFunded_359 ?_
                  refine v_aload_n C dL_isFunded_360 rfl rfl ?_
                  refine v_bipush C dL_isFunded_361 kb_11 ?_
                  refine v_iload C dL_isFunded_363 rfl ?_
                  refine v_imul C dL_isFunded_365 ?_
                  refine ld_21 C dL_isFunded_366 h (fun h => ?_)
                  refine v_aload_n C dL_isFunded_367 rfl rfl ?_
                  refine v_bipush C dL_isFunded_368 kb_11 ?_
                  refine v_iload C dL_isFunded_370 rfl ?_
                  refine v_imul C dL_isFunded_372 ?_
                  refine v_iconst C dL_isFunded_373 ki_2 ?_
                  refine v_iadd C dL_isFunded_374 ?_
                  refine ld_21 C dL_isFunded_375 h (fun h => ?_)
                  refine v_idiv C dL_isFunded_376 (if_some h).1 ?_
                  have h := (if_some h).2
                  refine v_aload_n C dL_isFunded_377 rfl rfl ?_
                  refine v_bipush C dL_isFunded_378 kb_11 ?_
                  refine v_iload C dL_isFunded_380 rfl ?_
                  refine v_imul C dL_isFunded_382 ?_
                  refine ld_21 C dL_isFunded_383 h (fun h => ?_)
                  refine v_aload_n C dL_isFunded_384 rfl rfl ?_
                  refine v_bipush C dL_isFunded_385 kb_11 ?_
                  refine v_iload C dL_isFunded_387 rfl ?_
                  refine v_imul C dL_isFunded_389 ?_
                  refine v_iconst C dL_isFunded_390 ki_2 ?_
                  refine v_iadd C dL_isFunded_391 ?_
                  refine ld_21 C dL_isFunded_392 h (fun h => ?_)
                  refine v_irem C dL_isFunded_393 (if_some h).1 ?_
                  have h := (if_some h).2
                  refine v_if_le C dL_isFunded_394 (tgt := 401) (by decide) h (fun h => ?_) (fun h => ?_)
                  · refine v_iconst C dL_isFunded_401 ki_0 ?_
                    refine v_iadd C dL_isFunded_402 ?_
                    refine as_21 C dL_isFunded_403 h (fun h => ?_)
                    refine v_lt h (fun σ38 h => ?_)
                    refine v_mask [true, true, true, true, true, true, true, true, true, true, true, true, true] (lc' := [some (.ref (ad G 9 0 0)), some (.ref (ad G 19 0 0)), some (.ref (ad G 20 0 0)), some (.ref (ad G 21 0 0)), some (.ref (ad G 22 0 0)), some (.ref (ad G 23 0 0)), some (.int a6), some (.int r1), some (.int r3), some (.int r5), some (.int ((σ6.1 336 0 ((11 : Int32) * r1).toNatClampNeg) - r7)), some (.int v11), some (.int ((6 : Int32) * (σ12.1 304 0 (2 : Int32).toNatClampNeg)))]) rfl ?_
                    exact hk32 _ h
                  · refine v_iconst C dL_isFunded_397 ki_1 ?_
                    refine v_goto C dL_isFunded_398 (tgt := 402) (by decide) ?_
                    refine v_iadd C dL_isFunded_402 ?_
                    refine as_21 C dL_isFunded_403 h (fun h => ?_)
                    refine v_lt h (fun σ39 h => ?_)
                    refine v_mask [true, true, true, true, true, true, true, true, true, true, true, true, true] (lc' := [some (.ref (ad G 9 0 0)), some (.ref (ad G 19 0 0)), some (.ref (ad G 20 0 0)), some (.ref (ad G 21 0 0)), some (.ref (ad G 22 0 0)), some (.ref (ad G 23 0 0)), some (.int a6), some (.int r1), some (.int r3), some (.int r5), some (.int ((σ6.1 336 0 ((11 : Int32) * r1).toNatClampNeg) - r7)), some (.int v11), some (.int ((6 : Int32) * (σ12.1 304 0 (2 : Int32).toNatClampNeg)))]) rfl ?_
                    exact hk32 _ h
            · refine v_aload_n C dL_isFunded_216 rfl rfl ?_
              refine v_iload C dL_isFunded_217 rfl ?_
              refine v_bipush C dL_isFunded_219 kb_9 ?_
              refine cVi C 9 0 0 (av := [.int r1, .int (9 : Int32)]) si_X9_loan lk_L_19 (ok9) rfl rfl rfl rfl (st := []) rfl (Nat.le_of_ble_eq_true rfl) dL_isFunded_221 h (fun _ _ hc => s_X9_loan (d := (d + 2)) r1 (9 : Int32)  hc) (fun r40 σ41 h => ?_)
              refine v_iload C dL_isFunded_224 rfl ?_
              refine v_icmp_ne C dL_isFunded_226 (tgt := 233) (by decide) h (fun h => ?_) (fun h => ?_)
              · refine v_iconst C dL_isFunded_233 ki_0 ?_
                exact v_zretc C dL_isFunded_234 (nar01 (Or.inl rfl)) h
              · refine v_iconst C dL_isFunded_229 ki_1 ?_
                refine v_goto C dL_isFunded_230 (tgt := 234) (by decide) ?_
                exact v_zretc C dL_isFunded_234 (nar01 (Or.inr rfl)) h
          · refine v_mask [true, true, true, true, true, true, true, true, true, true, true, true, false] (lc' := [some (.ref (ad G 9 0 0)), some (.ref (ad G 19 0 0)), some (.ref (ad G 20 0 0)), some (.ref (ad G 21 0 0)), some (.ref (ad G 22 0 0)), some (.ref (ad G 23 0 0)), some (.int a6), some (.int r1), some (.int r3), some (.int r5), some (.int ((σ6.1 336 0 ((11 : Int32) * r1).toNatClampNeg) - r7)), some (.int v11), none]) rfl ?_
            exact hk14 h
  · refine v_join (fun k => k = some (r, τ) → V X G 0 0 (QE X G (some (.int r)) τ) σ10 83 [some (.ref (ad G 9 0 0)), some (.ref (ad G 19 0 0)), some (.ref (ad G 20 0 0)), some (.ref (ad G 21 0 0)), some (.ref (ad G 22 0 0)), some (.ref (ad G 23 0 0)), some (.int a6), some (.int r1), some (.int r3), some (.int r5), some (.int ((σ6.1 336 0 ((11 : Int32) * r1).toNatClampNeg) - r7)), none, none] []) h (fun h => ?_) (fun k42 hk42 h => ?_)
    · refine v_iconst C dL_isFunded_83 ki_1 ?_
      refine v_iload C dL_isFunded_84 rfl ?_
      refine v_bipush C dL_isFunded_86 kb_7 ?_
      refine v_ishr C dL_isFunded_88 ?_
      refine v_sipush C dL_isFunded_89 ks_400 ?_
      refine cSi C (av := [.int (a6 >>> ((7 : Int32) &&& 31)), .int (400 : Int32)]) si_L_low lk_L_41 rfl rfl (st := [.int (1 : Int32)]) rfl (Nat.le_of_ble_eq_true rfl) dL_isFunded_92 h (fun _ _ hc => s_L_low (d := (d + 4)) (a6 >>> ((7 : Int32) &&& 31)) (400 : Int32)  hc) (fun r43 σ44 h => ?_)
      refine v_iadd C dL_isFunded_95 ?_
      refine v_mask [true, true, true, true, true, true, true, true, true, true, true, false, false] (lc' := [some (.ref (ad G 9 0 0)), some (.ref (ad G 19 0 0)), some (.ref (ad G 20 0 0)), some (.ref (ad G 21 0 0)), some (.ref (ad G 22 0 0)), some (.ref (ad G 23 0 0)), some (.int a6), some (.int r1), some (.int r3), some (.int r5), some (.int ((σ6.1 336 0 ((11 : Int32) * r1).toNatClampNeg) - r7)), none, none]) rfl ?_
      exact hk13 _ _ h
    · refine v_if_ne C dL_isFunded_58 (tgt := 83) (by decide) h (fun h => ?_) (fun h => ?_)
      · refine v_mask [true, true, true, true, true, true, true, true, true, true, true, false, false] (lc' := [some (.ref (ad G 9 0 0)), some (.ref (ad G 19 0 0)), some (.ref (ad G 20 0 0)), some (.ref (ad G 21 0 0)), some (.ref (ad G 22 0 0)), some (.ref (ad G 23 0 0)), some (.int a6), some (.int r1), some (.int r3), some (.int r5), some (.int ((σ6.1 336 0 ((11 : Int32) * r1).toNatClampNeg) - r7)), none, none]) rfl ?_
        exact hk42 h
      · refine v_iload C dL_isFunded_61 rfl ?_
        refine v_if_le C dL_isFunded_63 (tgt := 83) (by decide) h (fun h => ?_) (fun h => ?_)
        · refine v_mask [true, true, true, true, true, true, true, true, true, true, true, false, false] (lc' := [some (.ref (ad G 9 0 0)), some (.ref (ad G 19 0 0)), some (.ref (ad G 20 0 0)), some (.ref (ad G 21 0 0)), some (.ref (ad G 22 0 0)), some (.ref (ad G 23 0 0)), some (.int a6), some (.int r1), some (.int r3), some (.int r5), some (.int ((σ6.1 336 0 ((11 : Int32) * r1).toNatClampNeg) - r7)), none, none]) rfl ?_
          exact hk42 h
        · refine v_aload_n C dL_isFunded_66 rfl rfl ?_
          refine v_bipush C dL_isFunded_67 kb_11 ?_
          refine v_iload C dL_isFunded_69 rfl ?_
          refine v_imul C dL_isFunded_71 ?_
          refine v_iconst C dL_isFunded_72 ki_3 ?_
          refine v_iadd C dL_isFunded_73 ?_
          refine ld_21 C dL_isFunded_74 h (fun h => ?_)
          refine v_if_ne C dL_isFunded_75 (tgt := 83) (by decide) h (fun h => ?_) (fun h => ?_)
          · refine v_mask [true, true, true, true, true, true, true, true, true, true, true, false, false] (lc' := [some (.ref (ad G 9 0 0)), some (.ref (ad G 19 0 0)), some (.ref (ad G 20 0 0)), some (.ref (ad G 21 0 0)), some (.ref (ad G 22 0 0)), some (.ref (ad G 23 0 0)), some (.int a6), some (.int r1), some (.int r3), some (.int r5), some (.int ((σ6.1 336 0 ((11 : Int32) * r1).toNatClampNeg) - r7)), none, none]) rfl ?_
            exact hk42 h
          · refine v_iload C dL_isFunded_78 rfl ?_
            refine v_goto C dL_isFunded_80 (tgt := 96) (by decide) ?_
            refine v_mask [true, true, true, true, true, true, true, true, true, true, true, false, false] (lc' := [some (.ref (ad G 9 0 0)), some (.ref (ad G 19 0 0)), some (.ref (ad G 20 0 0)), some (.ref (ad G 21 0 0)), some (.ref (ad G 22 0 0)), some (.ref (ad G 23 0 0)), some (.int a6), some (.int r1), some (.int r3), some (.int r5), some (.int ((σ6.1 336 0 ((11 : Int32) * r1).toNatClampNeg) - r7)), none, none]) rfl ?_
            exact hk13 _ _ h
