/-! by program (wip/p28/walk.py): L_isMoved L_isGiven L_isPassed -/
def dc_L_isMoved (a5 : Int32) (σ : Sto) : Option (Int32 × Sto) :=
  (bd (dc_L_low (a5 >>> ((20 : Int32) &&& 31)) (3 : Int32) σ) fun r1 σ2 => (if r1 = 0 then (if inb (1 : Int32) 9 then (bd (dc_L_low a5 (σ2.1 304 0 (1 : Int32).toNatClampNeg) σ2) fun r23 σ24 => (bd (dc_L_low (a5 >>> ((4 : Int32) &&& 31)) (4 : Int32) σ24) fun r25 σ26 => (if inb (((11 : Int32) * r23) + (3 : Int32)) 44 then (if (σ26.1 336 0 (((11 : Int32) * r23) + (3 : Int32)).toNatClampNeg) = (1 : Int32) then (if inb (((11 : Int32) * r23) + (10 : Int32)) 44 then jn (fun (v27 : Int32) => jn (fun (v29 : Int32) => (if inb (((11 : Int32) * r23) + (10 : Int32)) 44 then (bd (dc_X9_switchServicer r23 r25 (up σ26 336 0 (((11 : Int32) * r23) + (10 : Int32)).toNatClampNeg v29)) fun r31 σ32 => (if v27 = 0 then (if inb (((11 : Int32) * r23) + (9 : Int32)) 44 then (if r31 = (σ32.1 336 0 (((11 : Int32) * r23) + (9 : Int32)).toNatClampNeg) then some ((1 : Int32), σ32) else some ((0 : Int32), σ32)) else none) else (if r31 = (-5 : Int32) then some ((1 : Int32), σ32) else some ((0 : Int32), σ32)))) else none)) (fun k30 => (if v27 = 0 then k30 r25 else (if inb (((11 : Int32) * r23) + (10 : Int32)) 44 then k30 (σ26.1 336 0 (((11 : Int32) * r23) + (10 : Int32)).toNatClampNeg) else none)))) (fun k28 => jn (k28 (1 : Int32)) (fun k33 => (if (σ26.1 336 0 (((11 : Int32) * r23) + (10 : Int32)).toNatClampNeg) = r25 then k33  else (if inb (((11 : Int32) * r23) + (10 : Int32)) 44 then (if (σ26.1 336 0 (((11 : Int32) * r23) + (10 : Int32)).toNatClampNeg) = (-5 : Int32) then (if inb (((11 : Int32) * r23) + (9 : Int32)) 44 then (if (σ26.1 336 0 (((11 : Int32) * r23) + (9 : Int32)).toNatClampNeg) = r25 then k33  else k28 (0 : Int32)) else none) else k28 (0 : Int32)) else none)))) else none) else (bd (dc_X9_switchServicer r23 r25 σ26) fun r34 σ35 => (if r34 = (-4 : Int32) then (bd (dc_X9_switchServicer r23 (4 : Int32) σ35) fun r36 σ37 => (if r36 = (-1 : Int32) then some ((1 : Int32), σ37) else some ((0 : Int32), σ37))) else some ((0 : Int32), σ35)))) else none))) else none) else (if inb (2 : Int32) 9 then (if (σ2.1 304 0 (2 : Int32).toNatClampNeg) = 0 then (bd (dc_X9_sellNote (0 : Int32) (0 : Int32) (0 : Int32) σ2) fun r21 σ22 => (if r21 = (-1 : Int32) then some ((1 : Int32), σ22) else some ((0 : Int32), σ22))) else (if inb (2 : Int32) 9 then (bd (dc_L_low a5 (σ2.1 304 0 (2 : Int32).toNatClampNeg) σ2) fun r3 σ4 => (bd (dc_L_low (a5 >>> ((5 : Int32) &&& 31)) (3 : Int32) σ4) fun r5 σ6 => (bd (dc_L_low (a5 >>> ((7 : Int32) &&& 31)) (900 : Int32) σ6) fun r7 σ8 => (if inb ((6 : Int32) * r3) 60 then (if (σ8.1 352 0 ((6 : Int32) * r3).toNatClampNeg) = r5 then (bd (dc_X9_sellNote r3 r5 r7 σ8) fun r17 σ18 => (if r17 = (-2 : Int32) then (bd (dc_X9_sellNote r3 (3 : Int32) r7 σ18) fun r19 σ20 => (if r19 = (-1 : Int32) then some ((1 : Int32), σ20) else some ((0 : Int32), σ20))) else some ((0 : Int32), σ18))) else (if inb (((6 : Int32) * r3) + (1 : Int32)) 60 then (if inb (((11 : Int32) * (σ8.1 352 0 (((6 : Int32) * r3) + (1 : Int32)).toNatClampNeg)) + (3 : Int32)) 44 then jn ((bd (dc_X9_sellNote r3 r5 r7 σ8) fun r10 σ11 => (if r10 = (-4 : Int32) then (bd (dc_X9_sellNote r3 r5 (100000 : Int32) σ11) fun r12 σ13 => (if r12 = (-2 : Int32) then some ((1 : Int32), σ13) else some ((0 : Int32), σ13))) else some ((0 : Int32), σ11)))) (fun k9 => (if (σ8.1 336 0 (((11 : Int32) * (σ8.1 352 0 (((6 : Int32) * r3) + (1 : Int32)).toNatClampNeg)) + (3 : Int32)).toNatClampNeg) = (1 : Int32) then (if inb ((3 : Int32) * r5) 9 then (if r7 ≤ (σ8.1 320 0 ((3 : Int32) * r5).toNatClampNeg) then (if inb ((3 : Int32) * r5) 9 then (if inb ((3 : Int32) * r5) 9 then (if inb ((6 : Int32) * r3) 60 then (if inb ((3 : Int32) * ((up σ8 320 0 ((3 : Int32) * r5).toNatClampNeg ((σ8.1 320 0 ((3 : Int32) * r5).toNatClampNeg) - r7)).1 352 0 ((6 : Int32) * r3).toNatClampNeg)) 9 then (if inb ((3 : Int32) * ((up σ8 320 0 ((3 : Int32) * r5).toNatClampNeg ((σ8.1 320 0 ((3 : Int32) * r5).toNatClampNeg) - r7)).1 352 0 ((6 : Int32) * r3).toNatClampNeg)) 9 then (lt (up (up σ8 320 0 ((3 : Int32) * r5).toNatClampNeg ((σ8.1 320 0 ((3 : Int32) * r5).toNatClampNeg) - r7)) 320 0 ((3 : Int32) * ((up σ8 320 0 ((3 : Int32) * r5).toNatClampNeg ((σ8.1 320 0 ((3 : Int32) * r5).toNatClampNeg) - r7)).1 352 0 ((6 : Int32) * r3).toNatClampNeg)).toNatClampNeg (((up σ8 320 0 ((3 : Int32) * r5).toNatClampNeg ((σ8.1 320 0 ((3 : Int32) * r5).toNatClampNeg) - r7)).1 320 0 ((3 : Int32) * ((up σ8 320 0 ((3 : Int32) * r5).toNatClampNeg ((σ8.1 320 0 ((3 : Int32) * r5).toNatClampNeg) - r7)).1 352 0 ((6 : Int32) * r3).toNatClampNeg)).toNatClampNeg) + r7)) fun σ14 => (if inb ((6 : Int32) * r3) 60 then (bd (dc_X9_sellNote r3 r5 r7 (up σ14 352 0 ((6 : Int32) * r3).toNatClampNeg r5)) fun r15 σ16 => (if inb (((6 : Int32) * r3) + (3 : Int32)) 60 then (if r15 = (σ16.1 352 0 (((6 : Int32) * r3) + (3 : Int32)).toNatClampNeg) then some ((1 : Int32), σ16) else some ((0 : Int32), σ16)) else none)) else none)) else none) else none) else none) else none) else none) else k9 ) else none) else k9 )) else none) else none)) else none)))) else none)) else none)))
set_option maxRecDepth 20000 in
set_option maxHeartbeats 4000000 in
theorem s_L_isMoved {G : Gm} {d : Nat} (a5 : Int32) {σ τ : Sto} {r : Int32} (h : dc_L_isMoved a5 σ = some (r, τ)) : Cl G (d + 4) m_L_isMoved [.ref (ad G 9 0 0), .ref (ad G 19 0 0), .ref (ad G 20 0 0), .ref (ad G 21 0 0), .ref (ad G 22 0 0), .int a5] σ (some (.int r)) τ := by
  unfold dc_L_isMoved at h
  refine Cl.mk (cc := cL_isMoved) (own := RL) (nL := 10) (ret := (some .boolean)) rfl rfl rfl rfl (by decide +kernel) (catA rfl) (Nat.le_of_ble_eq_true rfl) (fun X C => ?_)
  show V X G 0 0 (QE X G (some (.int r)) τ) σ 0 [some (.ref (ad G 9 0 0)), some (.ref (ad G 19 0 0)), some (.ref (ad G 20 0 0)), some (.ref (ad G 21 0 0)), some (.ref (ad G 22 0 0)), some (.int a5), none, none, none, none] []
  refine v_iload C dL_isMoved_0 rfl ?_
  refine v_bipush C dL_isMoved_2 kb_20 ?_
  refine v_ishr C dL_isMoved_4 ?_
  refine v_iconst C dL_isMoved_5 ki_3 ?_
  refine cSi C (av := [.int (a5 >>> ((20 : Int32) &&& 31)), .int (3 : Int32)]) si_L_low lk_L_41 rfl rfl (st := []) rfl (Nat.le_of_ble_eq_true rfl) dL_isMoved_6 h (fun _ _ hc => s_L_low (d := (d + 3)) (a5 >>> ((20 : Int32) &&& 31)) (3 : Int32)  hc) (fun r1 σ2 h => ?_)
  refine v_if_ne C dL_isMoved_9 (tgt := 180) (by decide) h (fun h => ?_) (fun h => ?_)
  · refine v_aload_n C dL_isMoved_180 rfl rfl ?_
    refine v_iconst C dL_isMoved_181 ki_2 ?_
    refine ld_19 C dL_isMoved_182 h (fun h => ?_)
    refine v_if_ne C dL_isMoved_183 (tgt := 203) (by decide) h (fun h => ?_) (fun h => ?_)
    · refine v_iload C dL_isMoved_203 rfl ?_
      refine v_aload_n C dL_isMoved_205 rfl rfl ?_
      refine v_iconst C dL_isMoved_206 ki_2 ?_
      refine ld_19 C dL_isMoved_207 h (fun h => ?_)
      refine cSi C (av := [.int a5, .int (σ2.1 304 0 (2 : Int32).toNatClampNeg)]) si_L_low lk_L_41 rfl rfl (st := []) rfl (Nat.le_of_ble_eq_true rfl) dL_isMoved_208 h (fun _ _ hc => s_L_low (d := (d + 3)) a5 (σ2.1 304 0 (2 : Int32).toNatClampNeg)  hc) (fun r3 σ4 h => ?_)
      refine v_istore C dL_isMoved_211 (Nat.le_of_ble_eq_true rfl) (lc1 := [some (.ref (ad G 9 0 0)), some (.ref (ad G 19 0 0)), some (.ref (ad G 20 0 0)), some (.ref (ad G 21 0 0)), some (.ref (ad G 22 0 0)), some (.int a5), some (.int r3), none, none, none]) rfl ?_
      refine v_iload C dL_isMoved_213 rfl ?_
      refine v_iconst C dL_isMoved_215 ki_5 ?_
      refine v_ishr C dL_isMoved_216 ?_
      refine v_iconst C dL_isMoved_217 ki_3 ?_
      refine cSi C (av := [.int (a5 >>> ((5 : Int32) &&& 31)), .int (3 : Int32)]) si_L_low lk_L_41 rfl rfl (st := []) rfl (Nat.le_of_ble_eq_true rfl) dL_isMoved_218 h (fun _ _ hc => s_L_low (d := (d + 3)) (a5 >>> ((5 : Int32) &&& 31)) (3 : Int32)  hc) (fun r5 σ6 h => ?_)
      refine v_istore C dL_isMoved_221 (Nat.le_of_ble_eq_true rfl) (lc1 := [some (.ref (ad G 9 0 0)), some (.ref (ad G 19 0 0)), some (.ref (ad G 20 0 0)), some (.ref (ad G 21 0 0)), some (.ref (ad G 22 0 0)), some (.int a5), some (.int r3), some (.int r5), none, none]) rfl ?_
      refine v_iload C dL_isMoved_223 rfl ?_
      refine v_bipush C dL_isMoved_225 kb_7 ?_
      refine v_ishr C dL_isMoved_227 ?_
      refine v_sipush C dL_isMoved_228 ks_900 ?_
      refine cSi C (av := [.int (a5 >>> ((7 : Int32) &&& 31)), .int (900 : Int32)]) si_L_low lk_L_41 rfl rfl (st := []) rfl (Nat.le_of_ble_eq_true rfl) dL_isMoved_231 h (fun _ _ hc => s_L_low (d := (d + 3)) (a5 >>> ((7 : Int32) &&& 31)) (900 : Int32)  hc) (fun r7 σ8 h => ?_)
      refine v_istore C dL_isMoved_234 (Nat.le_of_ble_eq_true rfl) (lc1 := [some (.ref (ad G 9 0 0)), some (.ref (ad G 19 0 0)), some (.ref (ad G 20 0 0)), some (.ref (ad G 21 0 0)), some (.ref (ad G 22 0 0)), some (.int a5), some (.int r3), some (.int r5), some (.int r7), none]) rfl ?_
      refine v_aload C dL_isMoved_236 rfl ?_
      refine v_bipush C dL_isMoved_238 kb_6 ?_
      refine v_iload C dL_isMoved_240 rfl ?_
      refine v_imul C dL_isMoved_242 ?_
      refine ld_22 C dL_isMoved_243 h (fun h => ?_)
      refine v_iload C dL_isMoved_244 rfl ?_
      refine v_icmp_ne C dL_isMoved_246 (tgt := 283) (by decide) h (fun h => ?_) (fun h => ?_)
      · refine v_aload_n C dL_isMoved_283 rfl rfl ?_
        refine v_bipush C dL_isMoved_284 kb_11 ?_
        refine v_aload C dL_isMoved_286 rfl ?_
        refine v_bipush C dL_isMoved_288 kb_6 ?_
        refine v_iload C dL_isMoved_290 rfl ?_
        refine v_imul C dL_isMoved_292 ?_
        refine v_iconst C dL_isMoved_293 ki_1 ?_
        refine v_iadd C dL_isMoved_294 ?_
        refine ld_22 C dL_isMoved_295 h (fun h => ?_)
        refine v_imul C dL_isMoved_296 ?_
        refine v_iconst C dL_isMoved_297 ki_3 ?_
        refine v_iadd C dL_isMoved_298 ?_
        refine ld_21 C dL_isMoved_299 h (fun h => ?_)
        refine v_iconst C dL_isMoved_300 ki_1 ?_
        refine v_join (fun k => k = some (r, τ) → V X G 0 0 (QE X G (some (.int r)) τ) σ8 315 [some (.ref (ad G 9 0 0)), some (.ref (ad G 19 0 0)), some (.ref (ad G 20 0 0)), some (.ref (ad G 21 0 0)), some (.ref (ad G 22 0 0)), some (.int a5), some (.int r3), some (.int r5), some (.int r7), none] []) h (fun h => ?_) (fun k9 hk9 h => ?_)
        · refine v_aload_n C dL_isMoved_315 rfl rfl ?_
          refine v_iload C dL_isMoved_316 rfl ?_
          refine v_iload C dL_isMoved_318 rfl ?_
          refine v_iload C dL_isMoved_320 rfl ?_
          refine cVi C 9 0 0 (av := [.int r3, .int r5, .int r7]) si_X9_sellNote lk_L_77 (ok9) rfl rfl rfl rfl (st := []) rfl (Nat.le_of_ble_eq_true rfl) dL_isMoved_322 h (fun _ _ hc => s_X9_sellNote (d := d) r3 r5 r7  hc) (fun r10 σ11 h => ?_)
          refine v_bipush C dL_isMoved_325 kb_m4 ?_
          refine v_icmp_ne C dL_isMoved_327 (tgt := 349) (by decide) h (fun h => ?_) (fun h => ?_)
          · refine v_iconst C dL_isMoved_349 ki_0 ?_
            exact v_zretc C dL_isMoved_350 (nar01 (Or.inl rfl)) h
          · refine v_aload_n C dL_isMoved_330 rfl rfl ?_
            refine v_iload C dL_isMoved_331 rfl ?_
            refine v_iload C dL_isMoved_333 rfl ?_
            refine v_ldc C dL_isMoved_335 lk_L_73 ?_
            refine cVi C 9 0 0 (av := [.int r3, .int r5, .int (100000 : Int32)]) si_X9_sellNote lk_L_77 (ok9) rfl rfl rfl rfl (st := []) rfl (Nat.le_of_ble_eq_true rfl) dL_isMoved_337 h (fun _ _ hc => s_X9_sellNote (d := d) r3 r5 (100000 : Int32)  hc) (fun r12 σ13 h => ?_)
            refine v_bipush C dL_isMoved_340 kb_m2 ?_
            refine v_icmp_ne C dL_isMoved_342 (tgt := 349) (by decide) h (fun h => ?_) (fun h => ?_)
            · refine v_iconst C dL_isMoved_349 ki_0 ?_
              exact v_zretc C dL_isMoved_350 (nar01 (Or.inl rfl)) h
            · refine v_iconst C dL_isMoved_345 ki_1 ?_
              refine v_goto C dL_isMoved_346 (tgt := 350) (by decide) ?_
              exact v_zretc C dL_isMoved_350 (nar01 (Or.inr rfl)) h
        · refine v_icmp_ne C dL_isMoved_301 (tgt := 315) (by decide) h (fun h => ?_) (fun h => ?_)
          · refine v_mask [true, true, true, true, true, true, true, true, true, false] (lc' := [some (.ref (ad G 9 0 0)), some (.ref (ad G 19 0 0)), some (.ref (ad G 20 0 0)), some (.ref (ad G 21 0 0)), some (.ref (ad G 22 0 0)), some (.int a5), some (.int r3), some (.int r5), some (.int r7), none]) rfl ?_
            exact hk9 h
          · refine v_aload_n C dL_isMoved_304 rfl rfl ?_
            refine v_iconst C dL_isMoved_305 ki_3 ?_
            refine v_iload C dL_isMoved_306 rfl ?_
            refine v_imul C dL_isMoved_308 ?_
            refine ld_20 C dL_isMoved_309 h (fun h => ?_)
            refine v_iload C dL_isMoved_310 rfl ?_
            refine v_icmp_ge C dL_isMoved_312 (tgt := 351) (by decide) h (fun h => ?_) (fun h => ?_)
            · refine v_aload_n C dL_isMoved_351 rfl rfl ?_
              refine v_iconst C dL_isMoved_352 ki_3 ?_
              refine v_iload C dL_isMoved_353 rfl ?_
              refine v_imul C dL_isMoved_355 ?_
              refine v_dup2 C dL_isMoved_356 rfl rfl ?_
              refine ld_20 C dL_isMoved_357 h (fun h => ?_)
              refine v_iload C dL_isMoved_358 rfl ?_
              refine v_isub C dL_isMoved_360 ?_
              refine as_20 C dL_isMoved_361 h (fun h => ?_)
              refine v_aload_n C dL_isMoved_362 rfl rfl ?_
              refine v_iconst C dL_isMoved_363 ki_3 ?_
              refine v_aload C dL_isMoved_364 rfl ?_
              refine v_bipush C dL_isMoved_366 kb_6 ?_
              refine v_iload C dL_isMoved_368 rfl ?_
              refine v_imul C dL_isMoved_370 ?_
              refine ld_22 C dL_isMoved_371 h (fun h => ?_)
              refine v_imul C dL_isMoved_372 ?_
              refine v_dup2 C dL_isMoved_373 rfl rfl ?_
              refine ld_20 C dL_isMoved_374 h (fun h => ?_)
              refine v_iload C dL_isMoved_375 rfl ?_
              refine v_iadd C dL_isMoved_377 ?_
              refine as_20 C dL_isMoved_378 h (fun h => ?_)
              refine v_lt h (fun σ14 h => ?_)
              refine v_aload C dL_isMoved_379 rfl ?_
              refine v_bipush C dL_isMoved_381 kb_6 ?_
              refine v_iload C dL_isMoved_383 rfl ?_
              refine v_imul C dL_isMoved_385 ?_
              refine v_iload C dL_isMoved_386 rfl ?_
              refine as_22 C dL_isMoved_388 h (fun h => ?_)
              refine v_aload_n C dL_isMoved_389 rfl rfl ?_
              refine v_iload C dL_isMoved_390 rfl ?_
              refine v_iload C dL_isMoved_392 rfl ?_
              refine v_iload C dL_isMoved_394 rfl ?_
              refine cVi C 9 0 0 (av := [.int r3, .int r5, .int r7]) si_X9_sellNote lk_L_77 (ok9) rfl rfl rfl rfl (st := []) rfl (Nat.le_of_ble_eq_true rfl) dL_isMoved_396 h (fun _ _ hc => s_X9_sellNote (d := d) r3 r5 r7  hc) (fun r15 σ16 h => ?_)
              refine v_aload C dL_isMoved_399 rfl ?_
              refine v_bipush C dL_isMoved_401 kb_6 ?_
              refine v_iload C dL_isMoved_403 rfl ?_
              refine v_imul C dL_isMoved_405 ?_
              refine v_iconst C dL_isMoved_406 ki_3 ?_
              refine v_iadd C dL_isMoved_407 ?_
              refine ld_22 C dL_isMoved_408 h (fun h => ?_)
              refine v_icmp_ne C dL_isMoved_409 (tgt := 416) (by decide) h (fun h => ?_) (fun h => ?_)
              · refine v_iconst C dL_isMoved_416 ki_0 ?_
                exact v_zretc C dL_isMoved_417 (nar01 (Or.inl rfl)) h
              · refine v_iconst C dL_isMoved_412 ki_1 ?_
                refine v_goto C dL_isMoved_413 (tgt := 417) (by decide) ?_
                exact v_zretc C dL_isMoved_417 (nar01 (Or.inr rfl)) h
            · refine v_mask [true, true, true, true, true, true, true, true, true, false] (lc' := [some (.ref (ad G 9 0 0)), some (.ref (ad G 19 0 0)), some (.ref (ad G 20 0 0)), some (.ref (ad G 21 0 0)), some (.ref (ad G 22 0 0)), some (.int a5), some (.int r3), some (.int r5), some (.int r7), none]) rfl ?_
              exact hk9 h
      · refine v_aload_n C dL_isMoved_249 rfl rfl ?_
        refine v_iload C dL_isMoved_250 rfl ?_
        refine v_iload C dL_isMoved_252 rfl ?_
        refine v_iload C dL_isMoved_254 rfl ?_
        refine cVi C 9 0 0 (av := [.int r3, .int r5, .int r7]) si_X9_sellNote lk_L_77 (ok9) rfl rfl rfl rfl (st := []) rfl (Nat.le_of_ble_eq_true rfl) dL_isMoved_256 h (fun _ _ hc => s_X9_sellNote (d := d) r3 r5 r7  hc) (fun r17 σ18 h => ?_)
        refine v_bipush C dL_isMoved_259 kb_m2 ?_
        refine v_icmp_ne C dL_isMoved_261 (tgt := 281) (by decide) h (fun h => ?_) (fun h => ?_)
        · refine v_iconst C dL_isMoved_281 ki_0 ?_
          exact v_zretc C dL_isMoved_282 (nar01 (Or.inl rfl)) h
        · refine v_aload_n C dL_isMoved_264 rfl rfl ?_
          refine v_iload C dL_isMoved_265 rfl ?_
          refine v_iconst C dL_isMoved_267 ki_3 ?_
          refine v_iload C dL_isMoved_268 rfl ?_
          refine cVi C 9 0 0 (av := [.int r3, .int (3 : Int32), .int r7]) si_X9_sellNote lk_L_77 (ok9) rfl rfl rfl rfl (st := []) rfl (Nat.le_of_ble_eq_true rfl) dL_isMoved_270 h (fun _ _ hc => s_X9_sellNote (d := d) r3 (3 : Int32) r7  hc) (fun r19 σ20 h => ?_)
          refine v_iconst C dL_isMoved_273 ki_m1 ?_
          refine v_icmp_ne C dL_isMoved_274 (tgt := 281) (by decide) h (fun h => ?_) (fun h => ?_)
          · refine v_iconst C dL_isMoved_281 ki_0 ?_
            exact v_zretc C dL_isMoved_282 (nar01 (Or.inl rfl)) h
          · refine v_iconst C dL_isMoved_277 ki_1 ?_
            refine v_goto C dL_isMoved_278 (tgt := 282) (by decide) ?_
            exact v_zretc C dL_isMoved_282 (nar01 (Or.inr rfl)) h
    · refine v_aload_n C dL_isMoved_186 rfl rfl ?_
      refine v_iconst C dL_isMoved_187 ki_0 ?_
      refine v_iconst C dL_isMoved_188 ki_0 ?_
      refine v_iconst C dL_isMoved_189 ki_0 ?_
      refine cVi C 9 0 0 (av := [.int (0 : Int32), .int (0 : Int32), .int (0 : Int32)]) si_X9_sellNote lk_L_77 (ok9) rfl rfl rfl rfl (st := []) rfl (Nat.le_of_ble_eq_true rfl) dL_isMoved_190 h (fun _ _ hc => s_X9_sellNote (d := d) (0 : Int32) (0 : Int32) (0 : Int32)  hc) (fun r21 σ22 h => ?_)
      refine v_iconst C dL_isMoved_193 ki_m1 ?_
      refine v_icmp_ne C dL_isMoved_194 (tgt := 201) (by decide) h (fun h => ?_) (fun h => ?_)
      · refine v_iconst C dL_isMoved_201 ki_0 ?_
        exact v_zretc C dL_isMoved_202 (nar01 (Or.inl rfl)) h
      · refine v_iconst C dL_isMoved_197 ki_1 ?_
        refine v_goto C dL_isMoved_198 (tgt := 202) (by decide) ?_
        exact v_zretc C dL_isMoved_202 (nar01 (Or.inr rfl)) h
  · refine v_iload C dL_isMoved_12 rfl ?_
    refine v_aload_n C dL_isMoved_14 rfl rfl ?_
    refine v_iconst C dL_isMoved_15 ki_1 ?_
    refine ld_19 C dL_isMoved_16 h (fun h => ?_)
    refine cSi C (av := [.int a5, .int (σ2.1 304 0 (1 : Int32).toNatClampNeg)]) si_L_low lk_L_41 rfl rfl (st := []) rfl (Nat.le_of_ble_eq_true rfl) dL_isMoved_17 h (fun _ _ hc => s_L_low (d := (d + 3)) a5 (σ2.1 304 0 (1 : Int32).toNatClampNeg)  hc) (fun r23 σ24 h => ?_)
    refine v_istore C dL_isMoved_20 (Nat.le_of_ble_eq_true rfl) (lc1 := [some (.ref (ad G 9 0 0)), some (.ref (ad G 19 0 0)), some (.ref (ad G 20 0 0)), some (.ref (ad G 21 0 0)), some (.ref (ad G 22 0 0)), some (.int a5), some (.int r23), none, none, none]) rfl ?_
    refine v_iload C dL_isMoved_22 rfl ?_
    refine v_iconst C dL_isMoved_24 ki_4 ?_
    refine v_ishr C dL_isMoved_25 ?_
    refine v_iconst C dL_isMoved_26 ki_4 ?_
    refine cSi C (av := [.int (a5 >>> ((4 : Int32) &&& 31)), .int (4 : Int32)]) si_L_low lk_L_41 rfl rfl (st := []) rfl (Nat.le_of_ble_eq_true rfl) dL_isMoved_27 h (fun _ _ hc => s_L_low (d := (d + 3)) (a5 >>> ((4 : Int32) &&& 31)) (4 : Int32)  hc) (fun r25 σ26 h => ?_)
    refine v_istore C dL_isMoved_30 (Nat.le_of_ble_eq_true rfl) (lc1 := [some (.ref (ad G 9 0 0)), some (.ref (ad G 19 0 0)), some (.ref (ad G 20 0 0)), some (.ref (ad G 21 0 0)), some (.ref (ad G 22 0 0)), some (.int a5), some (.int r23), some (.int r25), none, none]) rfl ?_
    refine v_bipush C dL_isMoved_32 kb_11 ?_
    refine v_iload C dL_isMoved_34 rfl ?_
    refine v_imul C dL_isMoved_36 ?_
    refine v_istore C dL_isMoved_37 (Nat.le_of_ble_eq_true rfl) (lc1 := [some (.ref (ad G 9 0 0)), some (.ref (ad G 19 0 0)), some (.ref (ad G 20 0 0)), some (.ref (ad G 21 0 0)), some (.ref (ad G 22 0 0)), some (.int a5), some (.int r23), some (.int r25), some (.int ((11 : Int32) * r23)), none]) rfl ?_
    refine v_aload_n C dL_isMoved_39 rfl rfl ?_
    refine v_iload C dL_isMoved_40 rfl ?_
    refine v_iconst C dL_isMoved_42 ki_3 ?_
    refine v_iadd C dL_isMoved_43 ?_
    refine ld_21 C dL_isMoved_44 h (fun h => ?_)
    refine v_iconst C dL_isMoved_45 ki_1 ?_
    refine v_icmp_eq C dL_isMoved_46 (tgt := 79) (by decide) h (fun h => ?_) (fun h => ?_)
    · refine v_aload_n C dL_isMoved_79 rfl rfl ?_
      refine v_iload C dL_isMoved_80 rfl ?_
      refine v_bipush C dL_isMoved_82 kb_10 ?_
      refine v_iadd C dL_isMoved_84 ?_
      refine ld_21 C dL_isMoved_85 h (fun h => ?_)
      refine v_iload C dL_isMoved_86 rfl ?_
      refine v_join (fun k => ∀ (v27 : Int32), k v27 = some (r, τ) → V X G 0 0 (QE X G (some (.int r)) τ) σ26 120 [some (.ref (ad G 9 0 0)), some (.ref (ad G 19 0 0)), some (.ref (ad G 20 0 0)), some (.ref (ad G 21 0 0)), some (.ref (ad G 22 0 0)), some (.int a5), some (.int r23), some (.int r25), some (.int ((11 : Int32) * r23)), none] [.int v27]) h (fun v27 h => ?_) (fun k28 hk28 h => ?_)
      · refine v_istore C dL_isMoved_120 (Nat.le_of_ble_eq_true rfl) (lc1 := [some (.ref (ad G 9 0 0)), some (.ref (ad G 19 0 0)), some (.ref (ad G 20 0 0)), some (.ref (ad G 21 0 0)), some (.ref (ad G 22 0 0)), some (.int a5), some (.int r23), some (.int r25), some (.int ((11 : Int32) * r23)), some (.int v27)]) rfl ?_
        refine v_aload_n C dL_isMoved_122 rfl rfl ?_
        refine v_iload C dL_isMoved_123 rfl ?_
        refine v_bipush C dL_isMoved_125 kb_10 ?_
        refine v_iadd C dL_isMoved_127 ?_
        refine v_iload C dL_isMoved_128 rfl ?_
        refine v_join (fun k => ∀ (v29 : Int32), k v29 = some (r, τ) → V X G 0 0 (QE X G (some (.int r)) τ) σ26 145 [some (.ref (ad G 9 0 0)), some (.ref (ad G 19 0 0)), some (.ref (ad G 20 0 0)), some (.ref (ad G 21 0 0)), some (.ref (ad G 22 0 0)), some (.int a5), some (.int r23), some (.int r25), some (.int ((11 : Int32) * r23)), some (.int v27)] [.int v29, .int (((11 : Int32) * r23) + (10 : Int32)), .ref (ad G 21 0 0)]) h (fun v29 h => ?_) (fun k30 hk30 h => ?_)
        · refine as_21 C dL_isMoved_145 h (fun h => ?_)
          refine v_aload_n C dL_isMoved_146 rfl rfl ?_
          refine v_iload C dL_isMoved_147 rfl ?_
          refine v_iload C dL_isMoved_149 rfl ?_
          refine cVi C 9 0 0 (av := [.int r23, .int r25]) si_X9_switchServicer lk_L_74 (ok9) rfl rfl rfl rfl (st := []) rfl (Nat.le_of_ble_eq_true rfl) dL_isMoved_151 h (fun _ _ hc => s_X9_switchServicer (d := d) r23 r25  hc) (fun r31 σ32 h => ?_)
          refine v_iload C dL_isMoved_154 rfl ?_
          refine v_if_eq C dL_isMoved_156 (tgt := 164) (by decide) h (fun h => ?_) (fun h => ?_)
          · refine v_aload_n C dL_isMoved_164 rfl rfl ?_
            refine v_iload C dL_isMoved_165 rfl ?_
            refine v_bipush C dL_isMoved_167 kb_9 ?_
            refine v_iadd C dL_isMoved_169 ?_
            refine ld_21 C dL_isMoved_170 h (fun h => ?_)
            refine v_icmp_ne C dL_isMoved_171 (tgt := 178) (by decide) h (fun h => ?_) (fun h => ?_)
            · refine v_iconst C dL_isMoved_178 ki_0 ?_
              exact v_zretc C dL_isMoved_179 (nar01 (Or.inl rfl)) h
            · refine v_iconst C dL_isMoved_174 ki_1 ?_
              refine v_goto C dL_isMoved_175 (tgt := 179) (by decide) ?_
              exact v_zretc C dL_isMoved_179 (nar01 (Or.inr rfl)) h
          · refine v_bipush C dL_isMoved_159 kb_m5 ?_
            refine v_goto C dL_isMoved_161 (tgt := 171) (by decide) ?_
            refine v_icmp_ne C dL_isMoved_171 (tgt := 178) (by decide) h (fun h => ?_) (fun h => ?_)
            · refine v_iconst C dL_isMoved_178 ki_0 ?_
              exact v_zretc C dL_isMoved_179 (nar01 (Or.inl rfl)) h
            · refine v_iconst C dL_isMoved_174 ki_1 ?_
              refine v_goto C dL_isMoved_175 (tgt := 179) (by decide) ?_
              exact v_zretc C dL_isMoved_179 (nar01 (Or.inr rfl)) h
        · refine v_if_eq C dL_isMoved_130 (tgt := 143) (by decide) h (fun h => ?_) (fun h => ?_)
          · refine v_iload C dL_isMoved_143 rfl ?_
            refine v_mask [true, true, true, true, true, true, true, true, true, true] (lc' := [some (.ref (ad G 9 0 0)), some (.ref (ad G 19 0 0)), some (.ref (ad G 20 0 0)), some (.ref (ad G 21 0 0)), some (.ref (ad G 22 0 0)), some (.int a5), some (.int r23), some (.int r25), some (.int ((11 : Int32) * r23)), some (.int v27)]) rfl ?_
            exact hk30 _ h
          · refine v_aload_n C dL_isMoved_133 rfl rfl ?_
            refine v_iload C dL_isMoved_134 rfl ?_
            refine v_bipush C dL_isMoved_136 kb_10 ?_
            refine v_iadd C dL_isMoved_138 ?_
            refine ld_21 C dL_isMoved_139 h (fun h => ?_)
            refine v_goto C dL_isMoved_140 (tgt := 145) (by decide) ?_
            refine v_mask [true, true, true, true, true, true, true, true, true, true] (lc' := [some (.ref (ad G 9 0 0)), some (.ref (ad G 19 0 0)), some (.ref (ad G 20 0 0)), some (.ref (ad G 21 0 0)), some (.ref (ad G 22 0 0)), some (.int a5), some (.int r23), some (.int r25), some (.int ((11 : Int32) * r23)), some (.int v27)]) rfl ?_
            exact hk30 _ h
      · refine v_join (fun k => k = some (r, τ) → V X G 0 0 (QE X G (some (.int r)) τ) σ26 115 [some (.ref (ad G 9 0 0)), some (.ref (ad G 19 0 0)), some (.ref (ad G 20 0 0)), some (.ref (ad G 21 0 0)), some (.ref (ad G 22 0 0)), some (.int a5), some (.int r23), some (.int r25), some (.int ((11 : Int32) * r23)), none] []) h (fun h => ?_) (fun k33 hk33 h => ?_)
        · refine v_iconst C dL_isMoved_115 ki_1 ?_
          refine v_goto C dL_isMoved_116 (tgt := 120) (by decide) ?_
          refine v_mask [true, true, true, true, true, true, true, true, true, false] (lc' := [some (.ref (ad G 9 0 0)), some (.ref (ad G 19 0 0)), some (.ref (ad G 20 0 0)), some (.ref (ad G 21 0 0)), some (.ref (ad G 22 0 0)), some (.int a5), some (.int r23), some (.int r25), some (.int ((11 : Int32) * r23)), none]) rfl ?_
          exact hk28 _ h
        · refine v_icmp_eq C dL_isMoved_88 (tgt := 115) (by decide) h (fun h => ?_) (fun h => ?_)
          · refine v_mask [true, true, true, true, true, true, true, true, true, false] (lc' := [some (.ref (ad G 9 0 0)), some (.ref (ad G 19 0 0)), some (.ref (ad G 20 0 0)), some (.ref (ad G 21 0 0)), some (.ref (ad G 22 0 0)), some (.int a5), some (.int r23), some (.int r25), some (.int ((11 : Int32) * r23)), none]) rfl ?_
            exact hk33 h
          · refine v_aload_n C dL_isMoved_91 rfl rfl ?_
            refine v_iload C dL_isMoved_92 rfl ?_
            refine v_bipush C dL_isMoved_94 kb_10 ?_
            refine v_iadd C dL_isMoved_96 ?_
            refine ld_21 C dL_isMoved_97 h (fun h => ?_)
            refine v_bipush C dL_isMoved_98 kb_m5 ?_
            refine v_icmp_ne C dL_isMoved_100 (tgt := 119) (by decide) h (fun h => ?_) (fun h => ?_)
            · refine v_iconst C dL_isMoved_119 ki_0 ?_
              refine v_mask [true, true, true, true, true, true, true, true, true, false] (lc' := [some (.ref (ad G 9 0 0)), some (.ref (ad G 19 0 0)), some (.ref (ad G 20 0 0)), some (.ref (ad G 21 0 0)), some (.ref (ad G 22 0 0)), some (.int a5), some (.int r23), some (.int r25), some (.int ((11 : Int32) * r23)), none]) rfl ?_
              exact hk28 _ h
            · refine v_aload_n C dL_isMoved_103 rfl rfl ?_
              refine v_iload C dL_isMoved_104 rfl ?_
              refine v_bipush C dL_isMoved_106 kb_9 ?_
              refine v_iadd C dL_isMoved_108 ?_
              refine ld_21 C dL_isMoved_109 h (fun h => ?_)
              refine v_iload C dL_isMoved_110 rfl ?_
              refine v_icmp_ne C dL_isMoved_112 (tgt := 119) (by decide) h (fun h => ?_) (fun h => ?_)
              · refine v_iconst C dL_isMoved_119 ki_0 ?_
                refine v_mask [true, true, true, true, true, true, true, true, true, false] (lc' := [some (.ref (ad G 9 0 0)), some (.ref (ad G 19 0 0)), some (.ref (ad G 20 0 0)), some (.ref (ad G 21 0 0)), some (.ref (ad G 22 0 0)), some (.int a5), some (.int r23), some (.int r25), some (.int ((11 : Int32) * r23)), none]) rfl ?_
                exact hk28 _ h
              · refine v_mask [true, true, true, true, true, true, true, true, true, false] (lc' := [some (.ref (ad G 9 0 0)), some (.ref (ad G 19 0 0)), some (.ref (ad G 20 0 0)), some (.ref (ad G 21 0 0)), some (.ref (ad G 22 0 0)), some (.int a5), some (.int r23), some (.int r25), some (.int ((11 : Int32) * r23)), none]) rfl ?_
                exact hk33 h
    · refine v_aload_n C dL_isMoved_49 rfl rfl ?_
      refine v_iload C dL_isMoved_50 rfl ?_
      refine v_iload C dL_isMoved_52 rfl ?_
      refine cVi C 9 0 0 (av := [.int r23, .int r25]) si_X9_switchServicer lk_L_74 (ok9) rfl rfl rfl rfl (st := []) rfl (Nat.le_of_ble_eq_true rfl) dL_isMoved_54 h (fun _ _ hc => s_X9_switchServicer (d := d) r23 r25  hc) (fun r34 σ35 h => ?_)
      refine v_bipush C dL_isMoved_57 kb_m4 ?_
      refine v_icmp_ne C dL_isMoved_59 (tgt := 77) (by decide) h (fun h => ?_) (fun h => ?_)
      · refine v_iconst C dL_isMoved_77 ki_0 ?_
        exact v_zretc C dL_isMoved_78 (nar01 (Or.inl rfl)) h
      · refine v_aload_n C dL_isMoved_62 rfl rfl ?_
        refine v_iload C dL_isMoved_63 rfl ?_
        refine v_iconst C dL_isMoved_65 ki_4 ?_
        refine cVi C 9 0 0 (av := [.int r23, .int (4 : Int32)]) si_X9_switchServicer lk_L_74 (ok9) rfl rfl rfl rfl (st := []) rfl (Nat.le_of_ble_eq_true rfl) dL_isMoved_66 h (fun _ _ hc => s_X9_switchServicer (d := d) r23 (4 : Int32)  hc) (fun r36 σ37 h => ?_)
        refine v_iconst C dL_isMoved_69 ki_m1 ?_
        refine v_icmp_ne C dL_isMoved_70 (tgt := 77) (by decide) h (fun h => ?_) (fun h => ?_)
        · refine v_iconst C dL_isMoved_77 ki_0 ?_
          exact v_zretc C dL_isMoved_78 (nar01 (Or.inl rfl)) h
        · refine v_iconst C dL_isMoved_73 ki_1 ?_
          refine v_goto C dL_isMoved_74 (tgt := 78) (by decide) ?_
          exact v_zretc C dL_isMoved_78 (nar01 (Or.inr rfl)) h

def dc_L_isGiven (a5 : Int32) (σ : Sto) : Option (Int32 × Sto) :=
  (if inb (1 : Int32) 9 then (bd (dc_L_low a5 (σ.1 304 0 (1 : Int32).toNatClampNeg) σ) fun r1 σ2 => (bd (dc_L_low (a5 >>> ((3 : Int32) &&& 31)) (3 : Int32) σ2) fun r3 σ4 => (if r3 ≤ 0 then (if inb (((11 : Int32) * r1) + (3 : Int32)) 44 then (if (σ4.1 336 0 (((11 : Int32) * r1) + (3 : Int32)).toNatClampNeg) ≤ 0 then (bd (dc_L_principals r1 (-1 : Int32) σ4) fun r5 σ6 => wh1 (fun (rec7 : Int32 → Sto → Option (Int32 × Sto)) (x9 : Int32) (σ8 : Sto) => (if inb (2 : Int32) 9 then (if (σ8.1 304 0 (2 : Int32).toNatClampNeg) ≤ x9 then (if inb (((11 : Int32) * r1) + (3 : Int32)) 44 then (bd (dc_X9_giveUp r1 (up σ8 336 0 (((11 : Int32) * r1) + (3 : Int32)).toNatClampNeg (4 : Int32))) fun r10 σ11 => (if r10 = r5 then some ((1 : Int32), σ11) else some ((0 : Int32), σ11))) else none) else (if inb (((6 : Int32) * x9) + (1 : Int32)) 60 then (if (σ8.1 352 0 (((6 : Int32) * x9) + (1 : Int32)).toNatClampNeg) = r1 then (if inb ((6 : Int32) * x9) 60 then (if inb ((3 : Int32) * (σ8.1 352 0 ((6 : Int32) * x9).toNatClampNeg)) 9 then (if inb (((6 : Int32) * x9) + (3 : Int32)) 60 then (if inb ((3 : Int32) * (σ8.1 352 0 ((6 : Int32) * x9).toNatClampNeg)) 9 then (if inb (((6 : Int32) * x9) + (3 : Int32)) 60 then (lt (up (up σ8 320 0 ((3 : Int32) * (σ8.1 352 0 ((6 : Int32) * x9).toNatClampNeg)).toNatClampNeg ((σ8.1 320 0 ((3 : Int32) * (σ8.1 352 0 ((6 : Int32) * x9).toNatClampNeg)).toNatClampNeg) + (σ8.1 352 0 (((6 : Int32) * x9) + (3 : Int32)).toNatClampNeg))) 352 0 (((6 : Int32) * x9) + (3 : Int32)).toNatClampNeg (0 : Int32)) fun σ12 => rec7 (x9 + 1) σ12) else none) else none) else none) else none) else none) else rec7 (x9 + 1) σ8) else none)) else none)) FU (0 : Int32) σ6) else (bd (dc_X9_giveUp r1 σ4) fun r13 σ14 => (if r13 = (-4 : Int32) then (if inb (1 : Int32) 9 then (bd (dc_X9_giveUp (σ14.1 304 0 (1 : Int32).toNatClampNeg) σ14) fun r15 σ16 => (if r15 = (-1 : Int32) then some ((1 : Int32), σ16) else some ((0 : Int32), σ16))) else none) else some ((0 : Int32), σ14)))) else none) else (bd (dc_L_low (a5 >>> ((5 : Int32) &&& 31)) (51 : Int32) σ4) fun r17 σ18 => (if inb (4 : Int32) 9 then (bd (dc_L_low (a5 >>> ((11 : Int32) &&& 31)) (3 : Int32) σ18) fun r19 σ20 => (if inb (4 : Int32) 9 then (if inb ((3 : Int32) * r19) 9 then (if inb ((3 : Int32) * r19) 9 then (lt (up (up σ20 304 0 (4 : Int32).toNatClampNeg r17) 320 0 ((3 : Int32) * r19).toNatClampNeg (((up σ20 304 0 (4 : Int32).toNatClampNeg r17).1 320 0 ((3 : Int32) * r19).toNatClampNeg) + ((1 : Int32) + r17))) fun σ21 => (bd (dc_X9_setPoolShare r17 σ21) fun r22 σ23 => jn (fun (v24 : Int32) => (if r22 = v24 then (bd (dc_X9_setPoolShare (51 : Int32) σ23) fun r26 σ27 => (if r26 = (-2 : Int32) then (bd (dc_X9_deposit r19 ((1 : Int32) + r17) σ27) fun r28 σ29 => (if inb ((3 : Int32) * r19) 9 then (if r28 = (σ29.1 320 0 ((3 : Int32) * r19).toNatClampNeg) then (bd (dc_X9_deposit r19 (0 : Int32) σ29) fun r30 σ31 => (if r30 = (-2 : Int32) then (bd (dc_X9_deposit (3 : Int32) (1 : Int32) σ31) fun r32 σ33 => (if r32 = (-1 : Int32) then some ((1 : Int32), σ33) else some ((0 : Int32), σ33))) else some ((0 : Int32), σ31))) else some ((0 : Int32), σ29)) else none)) else some ((0 : Int32), σ27))) else some ((0 : Int32), σ23))) (fun k25 => (if (σ18.1 304 0 (4 : Int32).toNatClampNeg) = r17 then k25 (-5 : Int32) else k25 (σ18.1 304 0 (4 : Int32).toNatClampNeg))))) else none) else none) else none)) else none))))) else none)
set_option maxRecDepth 20000 in
set_option maxHeartbeats 4000000 in
theorem s_L_isGiven {G : Gm} {d : Nat} (a5 : Int32) {σ τ : Sto} {r : Int32} (h : dc_L_isGiven a5 σ = some (r, τ)) : Cl G (d + 4) m_L_isGiven [.ref (ad G 9 0 0), .ref (ad G 19 0 0), .ref (ad G 20 0 0), .ref (ad G 21 0 0), .ref (ad G 22 0 0), .int a5] σ (some (.int r)) τ := by
  unfold dc_L_isGiven at h
  refine Cl.mk (cc := cL_isGiven) (own := RL) (nL := 10) (ret := (some .boolean)) rfl rfl rfl rfl (by decide +kernel) (catA rfl) (Nat.le_of_ble_eq_true rfl) (fun X C => ?_)
  show V X G 0 0 (QE X G (some (.int r)) τ) σ 0 [some (.ref (ad G 9 0 0)), some (.ref (ad G 19 0 0)), some (.ref (ad G 20 0 0)), some (.ref (ad G 21 0 0)), some (.ref (ad G 22 0 0)), some (.int a5), none, none, none, none] []
  refine v_iload C dL_isGiven_0 rfl ?_
  refine v_aload_n C dL_isGiven_2 rfl rfl ?_
  refine v_iconst C dL_isGiven_3 ki_1 ?_
  refine ld_19 C dL_isGiven_4 h (fun h => ?_)
  refine cSi C (av := [.int a5, .int (σ.1 304 0 (1 : Int32).toNatClampNeg)]) si_L_low lk_L_41 rfl rfl (st := []) rfl (Nat.le_of_ble_eq_true rfl) dL_isGiven_5 h (fun _ _ hc => s_L_low (d := (d + 3)) a5 (σ.1 304 0 (1 : Int32).toNatClampNeg)  hc) (fun r1 σ2 h => ?_)
  refine v_istore C dL_isGiven_8 (Nat.le_of_ble_eq_true rfl) (lc1 := [some (.ref (ad G 9 0 0)), some (.ref (ad G 19 0 0)), some (.ref (ad G 20 0 0)), some (.ref (ad G 21 0 0)), some (.ref (ad G 22 0 0)), some (.int a5), some (.int r1), none, none, none]) rfl ?_
  refine v_iload C dL_isGiven_10 rfl ?_
  refine v_iconst C dL_isGiven_12 ki_3 ?_
  refine v_ishr C dL_isGiven_13 ?_
  refine v_iconst C dL_isGiven_14 ki_3 ?_
  refine cSi C (av := [.int (a5 >>> ((3 : Int32) &&& 31)), .int (3 : Int32)]) si_L_low lk_L_41 rfl rfl (st := []) rfl (Nat.le_of_ble_eq_true rfl) dL_isGiven_15 h (fun _ _ hc => s_L_low (d := (d + 3)) (a5 >>> ((3 : Int32) &&& 31)) (3 : Int32)  hc) (fun r3 σ4 h => ?_)
  refine v_if_le C dL_isGiven_18 (tgt := 147) (by decide) h (fun h => ?_) (fun h => ?_)
  · refine v_aload_n C dL_isGiven_147 rfl rfl ?_
    refine v_bipush C dL_isGiven_148 kb_11 ?_
    refine v_iload C dL_isGiven_150 rfl ?_
    refine v_imul C dL_isGiven_152 ?_
    refine v_iconst C dL_isGiven_153 ki_3 ?_
    refine v_iadd C dL_isGiven_154 ?_
    refine ld_21 C dL_isGiven_155 h (fun h => ?_)
    refine v_if_le C dL_isGiven_156 (tgt := 187) (by decide) h (fun h => ?_) (fun h => ?_)
    · refine v_aload_n C dL_isGiven_187 rfl rfl ?_
      refine v_aload C dL_isGiven_188 rfl ?_
      refine v_iload C dL_isGiven_190 rfl ?_
      refine v_iconst C dL_isGiven_192 ki_m1 ?_
      refine cSi C (av := [.ref (ad G 19 0 0), .ref (ad G 22 0 0), .int r1, .int (-1 : Int32)]) si_L_principals lk_L_9 rfl rfl (st := []) rfl (Nat.le_of_ble_eq_true rfl) dL_isGiven_193 h (fun _ _ hc => s_L_principals (d := (d + 3)) r1 (-1 : Int32)  hc) (fun r5 σ6 h => ?_)
      refine v_istore C dL_isGiven_196 (Nat.le_of_ble_eq_true rfl) (lc1 := [some (.ref (ad G 9 0 0)), some (.ref (ad G 19 0 0)), some (.ref (ad G 20 0 0)), some (.ref (ad G 21 0 0)), some (.ref (ad G 22 0 0)), some (.int a5), some (.int r1), some (.int r5), none, none]) rfl ?_
      refine v_iconst C dL_isGiven_198 ki_0 ?_
      refine v_istore C dL_isGiven_199 (Nat.le_of_ble_eq_true rfl) (lc1 := [some (.ref (ad G 9 0 0)), some (.ref (ad G 19 0 0)), some (.ref (ad G 20 0 0)), some (.ref (ad G 21 0 0)), some (.ref (ad G 22 0 0)), some (.int a5), some (.int r1), some (.int r5), some (.int (0 : Int32)), none]) rfl ?_
      refine v_loop1 (fun x9 σ8 => V X G 0 0 (QE X G (some (.int r)) τ) σ8 201 [some (.ref (ad G 9 0 0)), some (.ref (ad G 19 0 0)), some (.ref (ad G 20 0 0)), some (.ref (ad G 21 0 0)), some (.ref (ad G 22 0 0)), some (.int a5), some (.int r1), some (.int r5), some (.int x9), none] []) (fun rec7 hrec7 x9 σ8 h => ?_) h
      refine v_iload C dL_isGiven_201 rfl ?_
      refine v_aload_n C dL_isGiven_203 rfl rfl ?_
      refine v_iconst C dL_isGiven_204 ki_2 ?_
      refine ld_19 C dL_isGiven_205 h (fun h => ?_)
      refine v_icmp_ge C dL_isGiven_206 (tgt := 266) (by decide) h (fun h => ?_) (fun h => ?_)
      · refine v_aload_n C dL_isGiven_266 rfl rfl ?_
        refine v_bipush C dL_isGiven_267 kb_11 ?_
        refine v_iload C dL_isGiven_269 rfl ?_
        refine v_imul C dL_isGiven_271 ?_
        refine v_iconst C dL_isGiven_272 ki_3 ?_
        refine v_iadd C dL_isGiven_273 ?_
        refine v_iconst C dL_isGiven_274 ki_4 ?_
        refine as_21 C dL_isGiven_275 h (fun h => ?_)
        refine v_aload_n C dL_isGiven_276 rfl rfl ?_
        refine v_iload C dL_isGiven_277 rfl ?_
        refine cVi C 9 0 0 (av := [.int r1]) si_X9_giveUp lk_L_86 (ok9) rfl rfl rfl rfl (st := []) rfl (Nat.le_of_ble_eq_true rfl) dL_isGiven_279 h (fun _ _ hc => s_X9_giveUp (d := d) r1  hc) (fun r10 σ11 h => ?_)
        refine v_iload C dL_isGiven_282 rfl ?_
        refine v_icmp_ne C dL_isGiven_284 (tgt := 291) (by decide) h (fun h => ?_) (fun h => ?_)
        · refine v_iconst C dL_isGiven_291 ki_0 ?_
          exact v_zretc C dL_isGiven_292 (nar01 (Or.inl rfl)) h
        · refine v_iconst C dL_isGiven_287 ki_1 ?_
          refine v_goto C dL_isGiven_288 (tgt := 292) (by decide) ?_
          exact v_zretc C dL_isGiven_292 (nar01 (Or.inr rfl)) h
      · refine v_aload C dL_isGiven_209 rfl ?_
        refine v_bipush C dL_isGiven_211 kb_6 ?_
        refine v_iload C dL_isGiven_213 rfl ?_
        refine v_imul C dL_isGiven_215 ?_
        refine v_iconst C dL_isGiven_216 ki_1 ?_
        refine v_iadd C dL_isGiven_217 ?_
        refine ld_22 C dL_isGiven_218 h (fun h => ?_)
        refine v_iload C dL_isGiven_219 rfl ?_
        refine v_icmp_ne C dL_isGiven_221 (tgt := 260) (by decide) h (fun h => ?_) (fun h => ?_)
        · refine v_iinc C dL_isGiven_260 rfl (kc_1 _) (lc1 := [some (.ref (ad G 9 0 0)), some (.ref (ad G 19 0 0)), some (.ref (ad G 20 0 0)), some (.ref (ad G 21 0 0)), some (.ref (ad G 22 0 0)), some (.int a5), some (.int r1), some (.int r5), some (.int (x9 + 1)), none]) rfl ?_
          refine v_goto C dL_isGiven_263 (tgt := 201) (by decide) ?_
          refine v_mask [true, true, true, true, true, true, true, true, true, false] (lc' := [some (.ref (ad G 9 0 0)), some (.ref (ad G 19 0 0)), some (.ref (ad G 20 0 0)), some (.ref (ad G 21 0 0)), some (.ref (ad G 22 0 0)), some (.int a5), some (.int r1), some (.int r5), some (.int (x9 + 1)), none]) rfl ?_
          exact hrec7 _ _ h
        · refine v_aload_n C dL_isGiven_224 rfl rfl ?_
          refine v_iconst C dL_isGiven_225 ki_3 ?_
          refine v_aload C dL_isGiven_226 rfl ?_
          refine v_bipush C dL_isGiven_228 kb_6 ?_
          refine v_iload C dL_isGiven_230 rfl ?_
          refine v_imul C dL_isGiven_232 ?_
          refine ld_22 C dL_isGiven_233 h (fun h => ?_)
          refine v_imul C dL_isGiven_234 ?_
          refine v_dup2 C dL_isGiven_235 rfl rfl ?_
          refine ld_20 C dL_isGiven_236 h (fun h => ?_)
          refine v_aload C dL_isGiven_237 rfl ?_
          refine v_bipush C dL_isGiven_239 kb_6 ?_
          refine v_iload C dL_isGiven_241 rfl ?_
          refine v_imul C dL_isGiven_243 ?_
          refine v_iconst C dL_isGiven_244 ki_3 ?_
          refine v_iadd C dL_isGiven_245 ?_
          refine ld_22 C dL_isGiven_246 h (fun h => ?_)
          refine v_iadd C dL_isGiven_247 ?_
          refine as_20 C dL_isGiven_248 h (fun h => ?_)
          refine v_aload C dL_isGiven_249 rfl ?_
          refine v_bipush C dL_isGiven_251 kb_6 ?_
          refine v_iload C dL_isGiven_253 rfl ?_
          refine v_imul C dL_isGiven_255 ?_
          refine v_iconst C dL_isGiven_256 ki_3 ?_
          refine v_iadd C dL_isGiven_257 ?_
          refine v_iconst C dL_isGiven_258 ki_0 ?_
          refine as_22 C dL_isGiven_259 h (fun h => ?_)
          refine v_lt h (fun σ12 h => ?_)
          refine v_iinc C dL_isGiven_260 rfl (kc_1 _) (lc1 := [some (.ref (ad G 9 0 0)), some (.ref (ad G 19 0 0)), some (.ref (ad G 20 0 0)), some (.ref (ad G 21 0 0)), some (.ref (ad G 22 0 0)), some (.int a5), some (.int r1), some (.int r5), some (.int (x9 + 1)), none]) rfl ?_
          refine v_goto C dL_isGiven_263 (tgt := 201) (by decide) ?_
          refine v_mask [true, true, true, true, true, true, true, true, true, false] (lc' := [some (.ref (ad G 9 0 0)), some (.ref (ad G 19 0 0)), some (.ref (ad G 20 0 0)), some (.ref (ad G 21 0 0)), some (.ref (ad G 22 0 0)), some (.int a5), some (.int r1), some (.int r5), some (.int (x9 + 1)), none]) rfl ?_
          exact hrec7 _ _ h
    · refine v_aload_n C dL_isGiven_159 rfl rfl ?_
      refine v_iload C dL_isGiven_160 rfl ?_
      refine cVi C 9 0 0 (av := [.int r1]) si_X9_giveUp lk_L_86 (ok9) rfl rfl rfl rfl (st := []) rfl (Nat.le_of_ble_eq_true rfl) dL_isGiven_162 h (fun _ _ hc => s_X9_giveUp (d := d) r1  hc) (fun r13 σ14 h => ?_)
      refine v_bipush C dL_isGiven_165 kb_m4 ?_
      refine v_icmp_ne C dL_isGiven_167 (tgt := 185) (by decide) h (fun h => ?_) (fun h => ?_)
      · refine v_iconst C dL_isGiven_185 ki_0 ?_
        exact v_zretc C dL_isGiven_186 (nar01 (Or.inl rfl)) h
      · refine v_aload_n C dL_isGiven_170 rfl rfl ?_
        refine v_aload_n C dL_isGiven_171 rfl rfl ?_
        refine v_iconst C dL_isGiven_172 ki_1 ?_
        refine ld_19 C dL_isGiven_173 h (fun h => ?_)
        refine cVi C 9 0 0 (av := [.int (σ14.1 304 0 (1 : Int32).toNatClampNeg)]) si_X9_giveUp lk_L_86 (ok9) rfl rfl rfl rfl (st := []) rfl (Nat.le_of_ble_eq_true rfl) dL_isGiven_174 h (fun _ _ hc => s_X9_giveUp (d := d) (σ14.1 304 0 (1 : Int32).toNatClampNeg)  hc) (fun r15 σ16 h => ?_)
        refine v_iconst C dL_isGiven_177 ki_m1 ?_
        refine v_icmp_ne C dL_isGiven_178 (tgt := 185) (by decide) h (fun h => ?_) (fun h => ?_)
        · refine v_iconst C dL_isGiven_185 ki_0 ?_
          exact v_zretc C dL_isGiven_186 (nar01 (Or.inl rfl)) h
        · refine v_iconst C dL_isGiven_181 ki_1 ?_
          refine v_goto C dL_isGiven_182 (tgt := 186) (by decide) ?_
          exact v_zretc C dL_isGiven_186 (nar01 (Or.inr rfl)) h
  · refine v_iload C dL_isGiven_21 rfl ?_
    refine v_iconst C dL_isGiven_23 ki_5 ?_
    refine v_ishr C dL_isGiven_24 ?_
    refine v_bipush C dL_isGiven_25 kb_51 ?_
    refine cSi C (av := [.int (a5 >>> ((5 : Int32) &&& 31)), .int (51 : Int32)]) si_L_low lk_L_41 rfl rfl (st := []) rfl (Nat.le_of_ble_eq_true rfl) dL_isGiven_27 h (fun _ _ hc => s_L_low (d := (d + 3)) (a5 >>> ((5 : Int32) &&& 31)) (51 : Int32)  hc) (fun r17 σ18 h => ?_)
    refine v_istore C dL_isGiven_30 (Nat.le_of_ble_eq_true rfl) (lc1 := [some (.ref (ad G 9 0 0)), some (.ref (ad G 19 0 0)), some (.ref (ad G 20 0 0)), some (.ref (ad G 21 0 0)), some (.ref (ad G 22 0 0)), some (.int a5), some (.int r1), some (.int r17), none, none]) rfl ?_
    refine v_aload_n C dL_isGiven_32 rfl rfl ?_
    refine v_iconst C dL_isGiven_33 ki_4 ?_
    refine ld_19 C dL_isGiven_34 h (fun h => ?_)
    refine v_istore C dL_isGiven_35 (Nat.le_of_ble_eq_true rfl) (lc1 := [some (.ref (ad G 9 0 0)), some (.ref (ad G 19 0 0)), some (.ref (ad G 20 0 0)), some (.ref (ad G 21 0 0)), some (.ref (ad G 22 0 0)), some (.int a5), some (.int r1), some (.int r17), some (.int (σ18.1 304 0 (4 : Int32).toNatClampNeg)), none]) rfl ?_
    refine v_iload C dL_isGiven_37 rfl ?_
    refine v_bipush C dL_isGiven_39 kb_11 ?_
    refine v_ishr C dL_isGiven_41 ?_
    refine v_iconst C dL_isGiven_42 ki_3 ?_
    refine cSi C (av := [.int (a5 >>> ((11 : Int32) &&& 31)), .int (3 : Int32)]) si_L_low lk_L_41 rfl rfl (st := []) rfl (Nat.le_of_ble_eq_true rfl) dL_isGiven_43 h (fun _ _ hc => s_L_low (d := (d + 3)) (a5 >>> ((11 : Int32) &&& 31)) (3 : Int32)  hc) (fun r19 σ20 h => ?_)
    refine v_istore C dL_isGiven_46 (Nat.le_of_ble_eq_true rfl) (lc1 := [some (.ref (ad G 9 0 0)), some (.ref (ad G 19 0 0)), some (.ref (ad G 20 0 0)), some (.ref (ad G 21 0 0)), some (.ref (ad G 22 0 0)), some (.int a5), some (.int r1), some (.int r17), some (.int (σ18.1 304 0 (4 : Int32).toNatClampNeg)), some (.int r19)]) rfl ?_
    refine v_aload_n C dL_isGiven_48 rfl rfl ?_
    refine v_iconst C dL_isGiven_49 ki_4 ?_
    refine v_iload C dL_isGiven_50 rfl ?_
    refine as_19 C dL_isGiven_52 h (fun h => ?_)
    refine v_aload_n C dL_isGiven_53 rfl rfl ?_
    refine v_iconst C dL_isGiven_54 ki_3 ?_
    refine v_iload C dL_isGiven_55 rfl ?_
    refine v_imul C dL_isGiven_57 ?_
    refine v_dup2 C dL_isGiven_58 rfl rfl ?_
    refine ld_20 C dL_isGiven_59 h (fun h => ?_)
    refine v_iconst C dL_isGiven_60 ki_1 ?_
    refine v_iload C dL_isGiven_61 rfl ?_
    refine v_iadd C dL_isGiven_63 ?_
    refine v_iadd C dL_isGiven_64 ?_
    refine as_20 C dL_isGiven_65 h (fun h => ?_)
    refine v_lt h (fun σ21 h => ?_)
    refine v_aload_n C dL_isGiven_66 rfl rfl ?_
    refine v_iload C dL_isGiven_67 rfl ?_
    refine cVi C 9 0 0 (av := [.int r17]) si_X9_setPoolShare lk_L_80 (ok9) rfl rfl rfl rfl (st := []) rfl (Nat.le_of_ble_eq_true rfl) dL_isGiven_69 h (fun _ _ hc => s_X9_setPoolShare (d := d) r17  hc) (fun r22 σ23 h => ?_)
    refine v_iload C dL_isGiven_72 rfl ?_
    refine v_iload C dL_isGiven_74 rfl ?_
    refine v_join (fun k => ∀ (v24 : Int32), k v24 = some (r, τ) → V X G 0 0 (QE X G (some (.int r)) τ) σ23 86 [some (.ref (ad G 9 0 0)), some (.ref (ad G 19 0 0)), some (.ref (ad G 20 0 0)), some (.ref (ad G 21 0 0)), some (.ref (ad G 22 0 0)), some (.int a5), some (.int r1), some (.int r17), some (.int (σ18.1 304 0 (4 : Int32).toNatClampNeg)), some (.int r19)] [.int v24, .int r22]) h (fun v24 h => ?_) (fun k25 hk25 h => ?_)
    · refine v_icmp_ne C dL_isGiven_86 (tgt := 145) (by decide) h (fun h => ?_) (fun h => ?_)
      · refine v_iconst C dL_isGiven_145 ki_0 ?_
        exact v_zretc C dL_isGiven_146 (nar01 (Or.inl rfl)) h
      · refine v_aload_n C dL_isGiven_89 rfl rfl ?_
        refine v_bipush C dL_isGiven_90 kb_51 ?_
        refine cVi C 9 0 0 (av := [.int (51 : Int32)]) si_X9_setPoolShare lk_L_80 (ok9) rfl rfl rfl rfl (st := []) rfl (Nat.le_of_ble_eq_true rfl) dL_isGiven_92 h (fun _ _ hc => s_X9_setPoolShare (d := d) (51 : Int32)  hc) (fun r26 σ27 h => ?_)
        refine v_bipush C dL_isGiven_95 kb_m2 ?_
        refine v_icmp_ne C dL_isGiven_97 (tgt := 145) (by decide) h (fun h => ?_) (fun h => ?_)
        · refine v_iconst C dL_isGiven_145 ki_0 ?_
          exact v_zretc C dL_isGiven_146 (nar01 (Or.inl rfl)) h
        · refine v_aload_n C dL_isGiven_100 rfl rfl ?_
          refine v_iload C dL_isGiven_101 rfl ?_
          refine v_iconst C dL_isGiven_103 ki_1 ?_
          refine v_iload C dL_isGiven_104 rfl ?_
          refine v_iadd C dL_isGiven_106 ?_
          refine cVi C 9 0 0 (av := [.int r19, .int ((1 : Int32) + r17)]) si_X9_deposit lk_L_83 (ok9) rfl rfl rfl rfl (st := []) rfl (Nat.le_of_ble_eq_true rfl) dL_isGiven_107 h (fun _ _ hc => s_X9_deposit (d := d) r19 ((1 : Int32) + r17)  hc) (fun r28 σ29 h => ?_)
          refine v_aload_n C dL_isGiven_110 rfl rfl ?_
          refine v_iconst C dL_isGiven_111 ki_3 ?_
          refine v_iload C dL_isGiven_112 rfl ?_
          refine v_imul C dL_isGiven_114 ?_
          refine ld_20 C dL_isGiven_115 h (fun h => ?_)
          refine v_icmp_ne C dL_isGiven_116 (tgt := 145) (by decide) h (fun h => ?_) (fun h => ?_)
          · refine v_iconst C dL_isGiven_145 ki_0 ?_
            exact v_zretc C dL_isGiven_146 (nar01 (Or.inl rfl)) h
          · refine v_aload_n C dL_isGiven_119 rfl rfl ?_
            refine v_iload C dL_isGiven_120 rfl ?_
            refine v_iconst C dL_isGiven_122 ki_0 ?_
            refine cVi C 9 0 0 (av := [.int r19, .int (0 : Int32)]) si_X9_deposit lk_L_83 (ok9) rfl rfl rfl rfl (st := []) rfl (Nat.le_of_ble_eq_true rfl) dL_isGiven_123 h (fun _ _ hc => s_X9_deposit (d := d) r19 (0 : Int32)  hc) (fun r30 σ31 h => ?_)
            refine v_bipush C dL_isGiven_126 kb_m2 ?_
            refine v_icmp_ne C dL_isGiven_128 (tgt := 145) (by decide) h (fun h => ?_) (fun h => ?_)
            · refine v_iconst C dL_isGiven_145 ki_0 ?_
              exact v_zretc C dL_isGiven_146 (nar01 (Or.inl rfl)) h
            · refine v_aload_n C dL_isGiven_131 rfl rfl ?_
              refine v_iconst C dL_isGiven_132 ki_3 ?_
              refine v_iconst C dL_isGiven_133 ki_1 ?_
              refine cVi C 9 0 0 (av := [.int (3 : Int32), .int (1 : Int32)]) si_X9_deposit lk_L_83 (ok9) rfl rfl rfl rfl (st := []) rfl (Nat.le_of_ble_eq_true rfl) dL_isGiven_134 h (fun _ _ hc => s_X9_deposit (d := d) (3 : Int32) (1 : Int32)  hc) (fun r32 σ33 h => ?_)
              refine v_iconst C dL_isGiven_137 ki_m1 ?_
              refine v_icmp_ne C dL_isGiven_138 (tgt := 145) (by decide) h (fun h => ?_) (fun h => ?_)
              · refine v_iconst C dL_isGiven_145 ki_0 ?_
                exact v_zretc C dL_isGiven_146 (nar01 (Or.inl rfl)) h
              · refine v_iconst C dL_isGiven_141 ki_1 ?_
                refine v_goto C dL_isGiven_142 (tgt := 146) (by decide) ?_
                exact v_zretc C dL_isGiven_146 (nar01 (Or.inr rfl)) h
    · refine v_icmp_ne C dL_isGiven_76 (tgt := 84) (by decide) h (fun h => ?_) (fun h => ?_)
      · refine v_iload C dL_isGiven_84 rfl ?_
        refine v_mask [true, true, true, true, true, true, true, true, true, true] (lc' := [some (.ref (ad G 9 0 0)), some (.ref (ad G 19 0 0)), some (.ref (ad G 20 0 0)), some (.ref (ad G 21 0 0)), some (.ref (ad G 22 0 0)), some (.int a5), some (.int r1), some (.int r17), some (.int (σ18.1 304 0 (4 : Int32).toNatClampNeg)), some (.int r19)]) rfl ?_
        exact hk25 _ h
      · refine v_bipush C dL_isGiven_79 kb_m5 ?_
        refine v_goto C dL_isGiven_81 (tgt := 86) (by decide) ?_
        refine v_mask [true, true, true, true, true, true, true, true, true, true] (lc' := [some (.ref (ad G 9 0 0)), some (.ref (ad G 19 0 0)), some (.ref (ad G 20 0 0)), some (.ref (ad G 21 0 0)), some (.ref (ad G 22 0 0)), some (.int a5), some (.int r1), some (.int r17), some (.int (σ18.1 304 0 (4 : Int32).toNatClampNeg)), some (.int r19)]) rfl ?_
        exact hk25 _ h

def dc_L_isPassed (a3 : Int32) (σ : Sto) : Option (Int32 × Sto) :=
  (if inb (0 : Int32) 9 then (if ((σ.1 304 0 (0 : Int32).toNatClampNeg) + a3) ≤ (240 : Int32) then wh2 (fun (rec1 : Int32 → Int32 → Sto → Option (Int32 × Sto)) (x3 : Int32) (x4 : Int32) (σ2 : Sto) => (if inb (1 : Int32) 9 then (if ((11 : Int32) * (σ2.1 304 0 (1 : Int32).toNatClampNeg)) ≤ x4 then (if inb (0 : Int32) 9 then (if inb (0 : Int32) 9 then (bd (dc_X9_pass a3 (up σ2 304 0 (0 : Int32).toNatClampNeg ((σ2.1 304 0 (0 : Int32).toNatClampNeg) + a3))) fun r5 σ6 => (if r5 = x3 then (bd (dc_X9_pass (0 : Int32) σ6) fun r7 σ8 => (if r7 = (-2 : Int32) then some ((1 : Int32), σ8) else some ((0 : Int32), σ8))) else some ((0 : Int32), σ6))) else none) else none) else wh1 (fun (rec9 : Int32 → Sto → Option (Int32 × Sto)) (x11 : Int32) (σ10 : Sto) => jn ((if inb (x4 + (3 : Int32)) 44 then (if (σ10.1 336 0 (x4 + (3 : Int32)).toNatClampNeg) = (1 : Int32) then (if inb (x4 + (8 : Int32)) 44 then (if (σ10.1 336 0 (x4 + (8 : Int32)).toNatClampNeg) ≤ 0 then rec1 (x3 + (0 : Int32)) (x4 + 11) σ10 else rec1 (x3 + (1 : Int32)) (x4 + 11) σ10) else none) else rec1 (x3 + (0 : Int32)) (x4 + 11) σ10) else none)) (fun k12 => (if a3 ≤ x11 then k12  else (if inb (x4 + (3 : Int32)) 44 then (if (σ10.1 336 0 (x4 + (3 : Int32)).toNatClampNeg) = (1 : Int32) then (if inb (x4 + (10 : Int32)) 44 then jn (fun (v13 : Int32) => (if inb (x4 + (9 : Int32)) 44 then (if inb (x4 + (10 : Int32)) 44 then (lt (up (up σ10 336 0 (x4 + (9 : Int32)).toNatClampNeg v13) 336 0 (x4 + (10 : Int32)).toNatClampNeg (-5 : Int32)) fun σ15 => (if inb (x4 + (6 : Int32)) 44 then jn (fun (v16 : Int32) => (if inb (x4 + (8 : Int32)) 44 then (if inb (x4 + (6 : Int32)) 44 then (if inb (x4 + (4 : Int32)) 44 then (if inb (x4 + (1 : Int32)) 44 then (if inb (x4 + (6 : Int32)) 44 then (lt (up (up σ15 336 0 (x4 + (8 : Int32)).toNatClampNeg v16) 336 0 (x4 + (6 : Int32)).toNatClampNeg (((up σ15 336 0 (x4 + (8 : Int32)).toNatClampNeg v16).1 336 0 (x4 + (6 : Int32)).toNatClampNeg) + ((((up σ15 336 0 (x4 + (8 : Int32)).toNatClampNeg v16).1 336 0 (x4 + (4 : Int32)).toNatClampNeg) * ((up σ15 336 0 (x4 + (8 : Int32)).toNatClampNeg v16).1 336 0 (x4 + (1 : Int32)).toNatClampNeg)) / (1000 : Int32)))) fun σ18 => (if inb (x4 + (7 : Int32)) 44 then (if inb (x4 + (5 : Int32)) 44 then (if inb (x4 + (4 : Int32)) 44 then (if ((σ18.1 336 0 (x4 + (7 : Int32)).toNatClampNeg) + (σ18.1 336 0 (x4 + (5 : Int32)).toNatClampNeg)) ≤ (σ18.1 336 0 (x4 + (4 : Int32)).toNatClampNeg) then (if inb (x4 + (7 : Int32)) 44 then (if inb (x4 + (5 : Int32)) 44 then (if inb (x4 + (7 : Int32)) 44 then rec9 (x11 + 1) (up σ18 336 0 (x4 + (7 : Int32)).toNatClampNeg ((σ18.1 336 0 (x4 + (7 : Int32)).toNatClampNeg) + (σ18.1 336 0 (x4 + (5 : Int32)).toNatClampNeg))) else none) else none) else none) else (if inb (x4 + (4 : Int32)) 44 then (if inb (x4 + (7 : Int32)) 44 then rec9 (x11 + 1) (up σ18 336 0 (x4 + (7 : Int32)).toNatClampNeg (σ18.1 336 0 (x4 + (4 : Int32)).toNatClampNeg)) else none) else none)) else none) else none) else none)) else none) else none) else none) else none) else none)) (fun k17 => jn ((if inb (x4 + (8 : Int32)) 44 then k17 ((σ15.1 336 0 (x4 + (8 : Int32)).toNatClampNeg) + (1 : Int32)) else none)) (fun k19 => (if 0 < (σ15.1 336 0 (x4 + (6 : Int32)).toNatClampNeg) then k19  else (if inb (x4 + (7 : Int32)) 44 then (if (σ15.1 336 0 (x4 + (7 : Int32)).toNatClampNeg) ≤ 0 then k17 (0 : Int32) else k19 ) else none)))) else none)) else none) else none)) (fun k14 => (if 0 ≤ (σ10.1 336 0 (x4 + (10 : Int32)).toNatClampNeg) then (if inb (x4 + (10 : Int32)) 44 then k14 (σ10.1 336 0 (x4 + (10 : Int32)).toNatClampNeg) else none) else (if inb (x4 + (9 : Int32)) 44 then k14 (σ10.1 336 0 (x4 + (9 : Int32)).toNatClampNeg) else none))) else none) else k12 ) else none)))) FU (0 : Int32) σ2) else none)) FU (0 : Int32) (0 : Int32) σ else (bd (dc_X9_pass a3 σ) fun r20 σ21 => (if r20 = (-4 : Int32) then (bd (dc_X9_pass (25 : Int32) σ21) fun r22 σ23 => (if r22 = (-2 : Int32) then some ((1 : Int32), σ23) else some ((0 : Int32), σ23))) else some ((0 : Int32), σ21)))) else none)
set_option maxRecDepth 20000 in
set_option maxHeartbeats 4000000 in
theorem s_L_isPassed {G : Gm} {d : Nat} (a3 : Int32) {σ τ : Sto} {r : Int32} (h : dc_L_isPassed a3 σ = some (r, τ)) : Cl G (d + 4) m_L_isPassed [.ref (ad G 9 0 0), .ref (ad G 19 0 0), .ref (ad G 21 0 0), .int a3] σ (some (.int r)) τ := by
  unfold dc_L_isPassed at h
  refine Cl.mk (cc := cL_isPassed) (own := RL) (nL := 7) (ret := (some .boolean)) rfl rfl rfl rfl (by decide +kernel) (catA rfl) (Nat.le_of_ble_eq_true rfl) (fun X C => ?_)
  show V X G 0 0 (QE X G (some (.int r)) τ) σ 0 [some (.ref (ad G 9 0 0)), some (.ref (ad G 19 0 0)), some (.ref (ad G 21 0 0)), some (.int a3), none, none, none] []
  refine v_aload_n C dL_isPassed_0 rfl rfl ?_
  refine v_iconst C dL_isPassed_1 ki_0 ?_
  refine ld_19 C dL_isPassed_2 h (fun h => ?_)
  refine v_iload_n C dL_isPassed_3 rfl rfl ?_
  refine v_iadd C dL_isPassed_4 ?_
  refine v_sipush C dL_isPassed_5 ks_240 ?_
  refine v_icmp_le C dL_isPassed_8 (tgt := 38) (by decide) h (fun h => ?_) (fun h => ?_)
  · refine v_iconst C dL_isPassed_38 ki_0 ?_
    refine v_istore C dL_isPassed_39 (Nat.le_of_ble_eq_true rfl) (lc1 := [some (.ref (ad G 9 0 0)), some (.ref (ad G 19 0 0)), some (.ref (ad G 21 0 0)), some (.int a3), some (.int (0 : Int32)), none, none]) rfl ?_
    refine v_iconst C dL_isPassed_41 ki_0 ?_
    refine v_istore C dL_isPassed_42 (Nat.le_of_ble_eq_true rfl) (lc1 := [some (.ref (ad G 9 0 0)), some (.ref (ad G 19 0 0)), some (.ref (ad G 21 0 0)), some (.int a3), some (.int (0 : Int32)), some (.int (0 : Int32)), none]) rfl ?_
    refine v_loop2 (fun x3 x4 σ2 => V X G 0 0 (QE X G (some (.int r)) τ) σ2 44 [some (.ref (ad G 9 0 0)), some (.ref (ad G 19 0 0)), some (.ref (ad G 21 0 0)), some (.int a3), some (.int x3), some (.int x4), none] []) (fun rec1 hrec1 x3 x4 σ2 h => ?_) h
    refine v_iload C dL_isPassed_44 rfl ?_
    refine v_bipush C dL_isPassed_46 kb_11 ?_
    refine v_aload_n C dL_isPassed_48 rfl rfl ?_
    refine v_iconst C dL_isPassed_49 ki_1 ?_
    refine ld_19 C dL_isPassed_50 h (fun h => ?_)
    refine v_imul C dL_isPassed_51 ?_
    refine v_icmp_ge C dL_isPassed_52 (tgt := 279) (by decide) h (fun h => ?_) (fun h => ?_)
    · refine v_aload_n C dL_isPassed_279 rfl rfl ?_
      refine v_iconst C dL_isPassed_280 ki_0 ?_
      refine v_dup2 C dL_isPassed_281 rfl rfl ?_
      refine ld_19 C dL_isPassed_282 h (fun h => ?_)
      refine v_iload_n C dL_isPassed_283 rfl rfl ?_
      refine v_iadd C dL_isPassed_284 ?_
      refine as_19 C dL_isPassed_285 h (fun h => ?_)
      refine v_aload_n C dL_isPassed_286 rfl rfl ?_
      refine v_iload_n C dL_isPassed_287 rfl rfl ?_
      refine cVi C 9 0 0 (av := [.int a3]) si_X9_pass lk_L_89 (ok9) rfl rfl rfl rfl (st := []) rfl (Nat.le_of_ble_eq_true rfl) dL_isPassed_288 h (fun _ _ hc => s_X9_pass (d := d) a3  hc) (fun r5 σ6 h => ?_)
      refine v_iload C dL_isPassed_291 rfl ?_
      refine v_icmp_ne C dL_isPassed_293 (tgt := 310) (by decide) h (fun h => ?_) (fun h => ?_)
      · refine v_iconst C dL_isPassed_310 ki_0 ?_
        exact v_zretc C dL_isPassed_311 (nar01 (Or.inl rfl)) h
      · refine v_aload_n C dL_isPassed_296 rfl rfl ?_
        refine v_iconst C dL_isPassed_297 ki_0 ?_
        refine cVi C 9 0 0 (av := [.int (0 : Int32)]) si_X9_pass lk_L_89 (ok9) rfl rfl rfl rfl (st := []) rfl (Nat.le_of_ble_eq_true rfl) dL_isPassed_298 h (fun _ _ hc => s_X9_pass (d := d) (0 : Int32)  hc) (fun r7 σ8 h => ?_)
        refine v_bipush C dL_isPassed_301 kb_m2 ?_
        refine v_icmp_ne C dL_isPassed_303 (tgt := 310) (by decide) h (fun h => ?_) (fun h => ?_)
        · refine v_iconst C dL_isPassed_310 ki_0 ?_
          exact v_zretc C dL_isPassed_311 (nar01 (Or.inl rfl)) h
        · refine v_iconst C dL_isPassed_306 ki_1 ?_
          refine v_goto C dL_isPassed_307 (tgt := 311) (by decide) ?_
          exact v_zretc C dL_isPassed_311 (nar01 (Or.inr rfl)) h
    · refine v_iconst C dL_isPassed_55 ki_0 ?_
      refine v_istore C dL_isPassed_56 (Nat.le_of_ble_eq_true rfl) (lc1 := [some (.ref (ad G 9 0 0)), some (.ref (ad G 19 0 0)), some (.ref (ad G 21 0 0)), some (.int a3), some (.int x3), some (.int x4), some (.int (0 : Int32))]) rfl ?_
      refine v_loop1 (fun x11 σ10 => V X G 0 0 (QE X G (some (.int r)) τ) σ10 58 [some (.ref (ad G 9 0 0)), some (.ref (ad G 19 0 0)), some (.ref (ad G 21 0 0)), some (.int a3), some (.int x3), some (.int x4), some (.int x11)] []) (fun rec9 hrec9 x11 σ10 h => ?_) h
      refine v_iload C dL_isPassed_58 rfl ?_
      refine v_iload_n C dL_isPassed_60 rfl rfl ?_
      refine v_join (fun k => k = some (r, τ) → V X G 0 0 (QE X G (some (.int r)) τ) σ10 243 [some (.ref (ad G 9 0 0)), some (.ref (ad G 19 0 0)), some (.ref (ad G 21 0 0)), some (.int a3), some (.int x3), some (.int x4), some (.int x11)] []) h (fun h => ?_) (fun k12 hk12 h => ?_)
      · refine v_iload C dL_isPassed_243 rfl ?_
        refine v_aload_n C dL_isPassed_245 rfl rfl ?_
        refine v_iload C dL_isPassed_246 rfl ?_
        refine v_iconst C dL_isPassed_248 ki_3 ?_
        refine v_iadd C dL_isPassed_249 ?_
        refine ld_21 C dL_isPassed_250 h (fun h => ?_)
        refine v_iconst C dL_isPassed_251 ki_1 ?_
        refine v_icmp_ne C dL_isPassed_252 (tgt := 269) (by decide) h (fun h => ?_) (fun h => ?_)
        · refine v_iconst C dL_isPassed_269 ki_0 ?_
          refine v_iadd C dL_isPassed_270 ?_
          refine v_istore C dL_isPassed_271 (Nat.le_of_ble_eq_true rfl) (lc1 := [some (.ref (ad G 9 0 0)), some (.ref (ad G 19 0 0)), some (.ref (ad G 21 0 0)), some (.int a3), some (.int (x3 + (0 : Int32))), some (.int x4), some (.int x11)]) rfl ?_
          refine v_iinc C dL_isPassed_273 rfl (kc_11 _) (lc1 := [some (.ref (ad G 9 0 0)), some (.ref (ad G 19 0 0)), some (.ref (ad G 21 0 0)), some (.int a3), some (.int (x3 + (0 : Int32))), some (.int (x4 + 11)), some (.int x11)]) rfl ?_
          refine v_goto C dL_isPassed_276 (tgt := 44) (by decide) ?_
          refine v_mask [true, true, true, true, true, true, false] (lc' := [some (.ref (ad G 9 0 0)), some (.ref (ad G 19 0 0)), some (.ref (ad G 21 0 0)), some (.int a3), some (.int (x3 + (0 : Int32))), some (.int (x4 + 11)), none]) rfl ?_
          exact hrec1 _ _ _ h
        · refine v_aload_n C dL_isPassed_255 rfl rfl ?_
          refine v_iload C dL_isPassed_256 rfl ?_
          refine v_bipush C dL_isPassed_258 kb_8 ?_
          refine v_iadd C dL_isPassed_260 ?_
          refine ld_21 C dL_isPassed_261 h (fun h => ?_)
          refine v_if_le C dL_isPassed_262 (tgt := 269) (by decide) h (fun h => ?_) (fun h => ?_)
          · refine v_iconst C dL_isPassed_269 ki_0 ?_
            refine v_iadd C dL_isPassed_270 ?_
            refine v_istore C dL_isPassed_271 (Nat.le_of_ble_eq_true rfl) (lc1 := [some (.ref (ad G 9 0 0)), some (.ref (ad G 19 0 0)), some (.ref (ad G 21 0 0)), some (.int a3), some (.int (x3 + (0 : Int32))), some (.int x4), some (.int x11)]) rfl ?_
            refine v_iinc C dL_isPassed_273 rfl (kc_11 _) (lc1 := [some (.ref (ad G 9 0 0)), some (.ref (ad G 19 0 0)), some (.ref (ad G 21 0 0)), some (.int a3), some (.int (x3 + (0 : Int32))), some (.int (x4 + 11)), some (.int x11)]) rfl ?_
            refine v_goto C dL_isPassed_276 (tgt := 44) (by decide) ?_
            refine v_mask [true, true, true, true, true, true, false] (lc' := [some (.ref (ad G 9 0 0)), some (.ref (ad G 19 0 0)), some (.ref (ad G 21 0 0)), some (.int a3), some (.int (x3 + (0 : Int32))), some (.int (x4 + 11)), none]) rfl ?_
            exact hrec1 _ _ _ h
          · refine v_iconst C dL_isPassed_265 ki_1 ?_
            refine v_goto C dL_isPassed_266 (tgt := 270) (by decide) ?_
            refine v_iadd C dL_isPassed_270 ?_
            refine v_istore C dL_isPassed_271 (Nat.le_of_ble_eq_true rfl) (lc1 := [some (.ref (ad G 9 0 0)), some (.ref (ad G 19 0 0)), some (.ref (ad G 21 0 0)), some (.int a3), some (.int (x3 + (1 : Int32))), some (.int x4), some (.int x11)]) rfl ?_
            refine v_iinc C dL_isPassed_273 rfl (kc_11 _) (lc1 := [some (.ref (ad G 9 0 0)), some (.ref (ad G 19 0 0)), some (.ref (ad G 21 0 0)), some (.int a3), some (.int (x3 + (1 : Int32))), some (.int (x4 + 11)), some (.int x11)]) rfl ?_
            refine v_goto C dL_isPassed_276 (tgt := 44) (by decide) ?_
            refine v_mask [true, true, true, true, true, true, false] (lc' := [some (.ref (ad G 9 0 0)), some (.ref (ad G 19 0 0)), some (.ref (ad G 21 0 0)), some (.int a3), some (.int (x3 + (1 : Int32))), some (.int (x4 + 11)), none]) rfl ?_
            exact hrec1 _ _ _ h
      · refine v_icmp_ge C dL_isPassed_61 (tgt := 243) (by decide) h (fun h => ?_) (fun h => ?_)
        · refine v_mask [true, true, true, true, true, true, true] (lc' := [some (.ref (ad G 9 0 0)), some (.ref (ad G 19 0 0)), some (.ref (ad G 21 0 0)), some (.int a3), some (.int x3), some (.int x4), some (.int x11)]) rfl ?_
          exact hk12 h
        · refine v_aload_n C dL_isPassed_64 rfl rfl ?_
          refine v_iload C dL_isPassed_65 rfl ?_
          refine v_iconst C dL_isPassed_67 ki_3 ?_
          refine v_iadd C dL_isPassed_68 ?_
          refine ld_21 C dL_isPassed_69 h (fun h => ?_)
          refine v_iconst C dL_isPassed_70 ki_1 ?_
          refine v_icmp_ne C dL_isPassed_71 (tgt := 243) (by decide) h (fun h => ?_) (fun h => ?_)
          · refine v_mask [true, true, true, true, true, true, true] (lc' := [some (.ref (ad G 9 0 0)), some (.ref (ad G 19 0 0)), some (.ref (ad G 21 0 0)), some (.int a3), some (.int x3), some (.int x4), some (.int x11)]) rfl ?_
            exact hk12 h
          · refine v_aload_n C dL_isPassed_74 rfl rfl ?_
            refine v_iload C dL_isPassed_75 rfl ?_
            refine v_bipush C dL_isPassed_77 kb_9 ?_
            refine v_iadd C dL_isPassed_79 ?_
            refine v_aload_n C dL_isPassed_80 rfl rfl ?_
            refine v_iload C dL_isPassed_81 rfl ?_
            refine v_bipush C dL_isPassed_83 kb_10 ?_
            refine v_iadd C dL_isPassed_85 ?_
            refine ld_21 C dL_isPassed_86 h (fun h => ?_)
            refine v_join (fun k => ∀ (v13 : Int32), k v13 = some (r, τ) → V X G 0 0 (QE X G (some (.int r)) τ) σ10 107 [some (.ref (ad G 9 0 0)), some (.ref (ad G 19 0 0)), some (.ref (ad G 21 0 0)), some (.int a3), some (.int x3), some (.int x4), some (.int x11)] [.int v13, .int (x4 + (9 : Int32)), .ref (ad G 21 0 0)]) h (fun v13 h => ?_) (fun k14 hk14 h => ?_)
            · refine as_21 C dL_isPassed_107 h (fun h => ?_)
              refine v_aload_n C dL_isPassed_108 rfl rfl ?_
              refine v_iload C dL_isPassed_109 rfl ?_
              refine v_bipush C dL_isPassed_111 kb_10 ?_
              refine v_iadd C dL_isPassed_113 ?_
              refine v_bipush C dL_isPassed_114 kb_m5 ?_
              refine as_21 C dL_isPassed_116 h (fun h => ?_)
              refine v_lt h (fun σ15 h => ?_)
              refine v_aload_n C dL_isPassed_117 rfl rfl ?_
              refine v_iload C dL_isPassed_118 rfl ?_
              refine v_bipush C dL_isPassed_120 kb_8 ?_
              refine v_iadd C dL_isPassed_122 ?_
              refine v_aload_n C dL_isPassed_123 rfl rfl ?_
              refine v_iload C dL_isPassed_124 rfl ?_
              refine v_bipush C dL_isPassed_126 kb_6 ?_
              refine v_iadd C dL_isPassed_128 ?_
              refine ld_21 C dL_isPassed_129 h (fun h => ?_)
              refine v_join (fun k => ∀ (v16 : Int32), k v16 = some (r, τ) → V X G 0 0 (QE X G (some (.int r)) τ) σ15 156 [some (.ref (ad G 9 0 0)), some (.ref (ad G 19 0 0)), some (.ref (ad G 21 0 0)), some (.int a3), some (.int x3), some (.int x4), some (.int x11)] [.int v16, .int (x4 + (8 : Int32)), .ref (ad G 21 0 0)]) h (fun v16 h => ?_) (fun k17 hk17 h => ?_)
              · refine as_21 C dL_isPassed_156 h (fun h => ?_)
                refine v_aload_n C dL_isPassed_157 rfl rfl ?_
                refine v_iload C dL_isPassed_158 rfl ?_
                refine v_bipush C dL_isPassed_160 kb_6 ?_
                refine v_iadd C dL_isPassed_162 ?_
                refine v_dup2 C dL_isPassed_163 rfl rfl ?_
                refine ld_21 C dL_isPassed_164 h (fun h => ?_)
                refine v_aload_n C dL_isPassed_165 rfl rfl ?_
                refine v_iload C dL_isPassed_166 rfl ?_
                refine v_iconst C dL_isPassed_168 ki_4 ?_
                refine v_iadd C dL_isPassed_169 ?_
                refine ld_21 C dL_isPassed_170 h (fun h => ?_)
                refine v_aload_n C dL_isPassed_171 rfl rfl ?_
                refine v_iload C dL_isPassed_172 rfl ?_
                refine v_iconst C dL_isPassed_174 ki_1 ?_
                refine v_iadd C dL_isPassed_175 ?_
                refine ld_21 C dL_isPassed_176 h (fun h => ?_)
                refine v_imul C dL_isPassed_177 ?_
                refine v_sipush C dL_isPassed_178 ks_1000 ?_
                refine v_idiv C dL_isPassed_181 (by decide) ?_
                refine v_iadd C dL_isPassed_182 ?_
                refine as_21 C dL_isPassed_183 h (fun h => ?_)
                refine v_lt h (fun σ18 h => ?_)
                refine v_aload_n C dL_isPassed_184 rfl rfl ?_
                refine v_iload C dL_isPassed_185 rfl ?_
                refine v_bipush C dL_isPassed_187 kb_7 ?_
                refine v_iadd C dL_isPassed_189 ?_
                refine v_aload_n C dL_isPassed_190 rfl rfl ?_
                refine v_iload C dL_isPassed_191 rfl ?_
                refine v_bipush C dL_isPassed_193 kb_7 ?_
                refine v_iadd C dL_isPassed_195 ?_
                refine ld_21 C dL_isPassed_196 h (fun h => ?_)
                refine v_aload_n C dL_isPassed_197 rfl rfl ?_
                refine v_iload C dL_isPassed_198 rfl ?_
                refine v_iconst C dL_isPassed_200 ki_5 ?_
                refine v_iadd C dL_isPassed_201 ?_
                refine ld_21 C dL_isPassed_202 h (fun h => ?_)
                refine v_iadd C dL_isPassed_203 ?_
                refine v_aload_n C dL_isPassed_204 rfl rfl ?_
                refine v_iload C dL_isPassed_205 rfl ?_
                refine v_iconst C dL_isPassed_207 ki_4 ?_
                refine v_iadd C dL_isPassed_208 ?_
                refine ld_21 C dL_isPassed_209 h (fun h => ?_)
                refine v_icmp_le C dL_isPassed_210 (tgt := 222) (by decide) h (fun h => ?_) (fun h => ?_)
                · refine v_aload_n C dL_isPassed_222 rfl rfl ?_
                  refine v_iload C dL_isPassed_223 rfl ?_
                  refine v_bipush C dL_isPassed_225 kb_7 ?_
                  refine v_iadd C dL_isPassed_227 ?_
                  refine ld_21 C dL_isPassed_228 h (fun h => ?_)
                  refine v_aload_n C dL_isPassed_229 rfl rfl ?_
                  refine v_iload C dL_isPassed_230 rfl ?_
                  refine v_iconst C dL_isPassed_232 ki_5 ?_
                  refine v_iadd C dL_isPassed_233 ?_
                  refine ld_21 C dL_isPassed_234 h (fun h => ?_)
                  refine v_iadd C dL_isPassed_235 ?_
                  refine as_21 C dL_isPassed_236 h (fun h => ?_)
                  refine v_iinc C dL_isPassed_237 rfl (kc_1 _) (lc1 := [some (.ref (ad G 9 0 0)), some (.ref (ad G 19 0 0)), some (.ref (ad G 21 0 0)), some (.int a3), some (.int x3), some (.int x4), some (.int (x11 + 1))]) rfl ?_
                  refine v_goto C dL_isPassed_240 (tgt := 58) (by decide) ?_
                  refine v_mask [true, true, true, true, true, true, true] (lc' := [some (.ref (ad G 9 0 0)), some (.ref (ad G 19 0 0)), some (.ref (ad G 21 0 0)), some (.int a3), some (.int x3), some (.int x4), some (.int (x11 + 1))]) rfl ?_
                  exact hrec9 _ _ h
                · refine v_aload_n C dL_isPassed_213 rfl rfl ?_
                  refine v_iload C dL_isPassed_214 rfl ?_
                  refine v_iconst C dL_isPassed_216 ki_4 ?_
                  refine v_iadd C dL_isPassed_217 ?_
                  refine ld_21 C dL_isPassed_218 h (fun h => ?_)
                  refine v_goto C dL_isPassed_219 (tgt := 236) (by decide) ?_
                  refine as_21 C dL_isPassed_236 h (fun h => ?_)
                  refine v_iinc C dL_isPassed_237 rfl (kc_1 _) (lc1 := [some (.ref (ad G 9 0 0)), some (.ref (ad G 19 0 0)), some (.ref (ad G 21 0 0)), some (.int a3), some (.int x3), some (.int x4), some (.int (x11 + 1))]) rfl ?_
                  refine v_goto C dL_isPassed_240 (tgt := 58) (by decide) ?_
                  refine v_mask [true, true, true, true, true, true, true] (lc' := [some (.ref (ad G 9 0 0)), some (.ref (ad G 19 0 0)), some (.ref (ad G 21 0 0)), some (.int a3), some (.int x3), some (.int x4), some (.int (x11 + 1))]) rfl ?_
                  exact hrec9 _ _ h
              · refine v_join (fun k => k = some (r, τ) → V X G 0 0 (QE X G (some (.int r)) τ) σ15 143 [some (.ref (ad G 9 0 0)), some (.ref (ad G 19 0 0)), some (.ref (ad G 21 0 0)), some (.int a3), some (.int x3), some (.int x4), some (.int x11)] [.int (x4 + (8 : Int32)), .ref (ad G 21 0 0)]) h (fun h => ?_) (fun k19 hk19 h => ?_)
                · refine v_aload_n C dL_isPassed_143 rfl rfl ?_
                  refine v_iload C dL_isPassed_144 rfl ?_
                  refine v_bipush C dL_isPassed_146 kb_8 ?_
                  refine v_iadd C dL_isPassed_148 ?_
                  refine ld_21 C dL_isPassed_149 h (fun h => ?_)
                  refine v_iconst C dL_isPassed_150 ki_1 ?_
                  refine v_iadd C dL_isPassed_151 ?_
                  refine v_goto C dL_isPassed_152 (tgt := 156) (by decide) ?_
                  refine v_mask [true, true, true, true, true, true, true] (lc' := [some (.ref (ad G 9 0 0)), some (.ref (ad G 19 0 0)), some (.ref (ad G 21 0 0)), some (.int a3), some (.int x3), some (.int x4), some (.int x11)]) rfl ?_
                  exact hk17 _ h
                · refine v_if_gt C dL_isPassed_130 (tgt := 143) (by decide) h (fun h => ?_) (fun h => ?_)
                  · refine v_mask [true, true, true, true, true, true, true] (lc' := [some (.ref (ad G 9 0 0)), some (.ref (ad G 19 0 0)), some (.ref (ad G 21 0 0)), some (.int a3), some (.int x3), some (.int x4), some (.int x11)]) rfl ?_
                    exact hk19 h
                  · refine v_aload_n C dL_isPassed_133 rfl rfl ?_
                    refine v_iload C dL_isPassed_134 rfl ?_
                    refine v_bipush C dL_isPassed_136 kb_7 ?_
                    refine v_iadd C dL_isPassed_138 ?_
                    refine ld_21 C dL_isPassed_139 h (fun h => ?_)
                    refine v_if_le C dL_isPassed_140 (tgt := 155) (by decide) h (fun h => ?_) (fun h => ?_)
                    · refine v_iconst C dL_isPassed_155 ki_0 ?_
                      refine v_mask [true, true, true, true, true, true, true] (lc' := [some (.ref (ad G 9 0 0)), some (.ref (ad G 19 0 0)), some (.ref (ad G 21 0 0)), some (.int a3), some (.int x3), some (.int x4), some (.int x11)]) rfl ?_
                      exact hk17 _ h
                    · refine v_mask [true, true, true, true, true, true, true] (lc' := [some (.ref (ad G 9 0 0)), some (.ref (ad G 19 0 0)), some (.ref (ad G 21 0 0)), some (.int a3), some (.int x3), some (.int x4), some (.int x11)]) rfl ?_
                      exact hk19 h
            · refine v_if_ge C dL_isPassed_87 (tgt := 100) (by decide) h (fun h => ?_) (fun h => ?_)
              · refine v_aload_n C dL_isPassed_100 rfl rfl ?_
                refine v_iload C dL_isPassed_101 rfl ?_
                refine v_bipush C dL_isPassed_103 kb_10 ?_
                refine v_iadd C dL_isPassed_105 ?_
                refine ld_21 C dL_isPassed_106 h (fun h => ?_)
                refine v_mask [true, true, true, true, true, true, true] (lc' := [some (.ref (ad G 9 0 0)), some (.ref (ad G 19 0 0)), some (.ref (ad G 21 0 0)), some (.int a3), some (.int x3), some (.int x4), some (.int x11)]) rfl ?_
                exact hk14 _ h
              · refine v_aload_n C dL_isPassed_90 rfl rfl ?_
                refine v_iload C dL_isPassed_91 rfl ?_
                refine v_bipush C dL_isPassed_93 kb_9 ?_
                refine v_iadd C dL_isPassed_95 ?_
                refine ld_21 C dL_isPassed_96 h (fun h => ?_)
                refine v_goto C dL_isPassed_97 (tgt := 107) (by decide) ?_
                refine v_mask [true, true, true, true, true, true, true] (lc' := [some (.ref (ad G 9 0 0)), some (.ref (ad G 19 0 0)), some (.ref (ad G 21 0 0)), some (.int a3), some (.int x3), some (.int x4), some (.int x11)]) rfl ?_
                exact hk14 _ h
  · refine v_aload_n C dL_isPassed_11 rfl rfl ?_
    refine v_iload_n C dL_isPassed_12 rfl rfl ?_
    refine cVi C 9 0 0 (av := [.int a3]) si_X9_pass lk_L_89 (ok9) rfl rfl rfl rfl (st := []) rfl (Nat.le_of_ble_eq_true rfl) dL_isPassed_13 h (fun _ _ hc => s_X9_pass (d := d) a3  hc) (fun r20 σ21 h => ?_)
    refine v_bipush C dL_isPassed_16 kb_m4 ?_
    refine v_icmp_ne C dL_isPassed_18 (tgt := 36) (by decide) h (fun h => ?_) (fun h => ?_)
    · refine v_iconst C dL_isPassed_36 ki_0 ?_
      exact v_zretc C dL_isPassed_37 (nar01 (Or.inl rfl)) h
    · refine v_aload_n C dL_isPassed_21 rfl rfl ?_
      refine v_bipush C dL_isPassed_22 kb_25 ?_
      refine cVi C 9 0 0 (av := [.int (25 : Int32)]) si_X9_pass lk_L_89 (ok9) rfl rfl rfl rfl (st := []) rfl (Nat.le_of_ble_eq_true rfl) dL_isPassed_24 h (fun _ _ hc => s_X9_pass (d := d) (25 : Int32)  hc) (fun r22 σ23 h => ?_)
      refine v_bipush C dL_isPassed_27 kb_m2 ?_
      refine v_icmp_ne C dL_isPassed_29 (tgt := 36) (by decide) h (fun h => ?_) (fun h => ?_)
      · refine v_iconst C dL_isPassed_36 ki_0 ?_
        exact v_zretc C dL_isPassed_37 (nar01 (Or.inl rfl)) h
      · refine v_iconst C dL_isPassed_32 ki_1 ?_
        refine v_goto C dL_isPassed_33 (tgt := 37) (by decide) ?_
        exact v_zretc C dL_isPassed_37 (nar01 (Or.inr rfl)) h
