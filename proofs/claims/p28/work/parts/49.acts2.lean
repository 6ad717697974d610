/-! acts on one loan -/
theorem siN_out {m m' : Mt} (h3 : m' 3 = m 3) (h : ∀ k, 144 ≤ k → m' k = m k) (l : Int32) : siN m' l = siN m l := by
  unfold siN nc
  rw [h3]
  exact si_congr fun n _ => by rw [h (144 + 7 * n + 1) (by omega), h (144 + 7 * n + 3) (by omega)]
theorem InvM_loan {K : Int} {m m' : Mt} {l0 : Nat} (h : InvM K m) (hl0 : l0 < nb m) (ho : ∀ k, ¬ (34 + 11 * l0 ≤ k ∧ k < 45 + 11 * l0) → m' k = m k) (hL : LoK m' (34 + 11 * l0)) (hS : SmK m' l0) (hn : ¬ m' (34 + 11 * l0 + 3) = 3 → ¬ m (34 + 11 * l0 + 3) = 3) : InvM K m' := by
  obtain ⟨i1, i2, i3, i4, i5, i6, i7, i8, i9⟩ := h
  have hb := i1.b.2
  have e0 := ho 0 (by omega)
  have e1 := ho 1 (by omega)
  have e2 := ho 2 (by omega)
  have e3 := ho 3 (by omega)
  have e4 := ho 4 (by omega)
  have e5 := ho 5 (by omega)
  have hhi : ∀ k, 144 ≤ k → m' k = m k := fun k hk => ho k (by omega)
  refine ⟨by unfold Cnt; rw [e1, e2, e3]; exact i1, by rw [e0]; exact i2, by rw [e5]; exact i3, by rw [e4]; exact i4, fun i hi => by rw [ho _ (by omega)]; exact i5 i hi, fun l hl => ?_, fun n hn' => ?_, fun l hl => ?_, fun i h1 h2 => ?_⟩
  · have hl' : l < nb m := by unfold nb at hl; rw [e2] at hl; exact hl
    by_cases e : l = l0
    · rw [e]; exact hL
    · have q := i6 l hl'
      unfold LoK at q ⊢
      rw [e0, ho (34 + 11 * l) (by omega), ho (34 + 11 * l + 1) (by omega), ho (34 + 11 * l + 2) (by omega), ho (34 + 11 * l + 3) (by omega), ho (34 + 11 * l + 4) (by omega), ho (34 + 11 * l + 5) (by omega), ho (34 + 11 * l + 6) (by omega), ho (34 + 11 * l + 7) (by omega), ho (34 + 11 * l + 8) (by omega), ho (34 + 11 * l + 9) (by omega), ho (34 + 11 * l + 10) (by omega)]
      exact q
  · have hn2 : n < nc m := by unfold nc at hn'; rw [e3] at hn'; exact hn'
    obtain ⟨q1, q2, q3, q4, q5⟩ := i7 n hn2
    unfold NoK isI isL
    rw [e1, e2, hhi (144 + 7 * n) (by omega), hhi (144 + 7 * n + 1) (by omega), hhi (144 + 7 * n + 2) (by omega), hhi (144 + 7 * n + 3) (by omega), hhi (144 + 7 * n + 6) (by omega)]
    refine ⟨q1, q2, q3, q4, fun z => q5 ?_⟩
    by_cases e : (m (144 + 7 * n + 1)).toNatClampNeg = l0
    · rw [e] at z ⊢; exact hn z
    · rw [ho _ (by omega)] at z; exact z
  · have hl' : l < nb m := by unfold nb at hl; rw [e2] at hl; exact hl
    by_cases e : l = l0
    · rw [e]; exact hS
    · have q := i8 l hl'
      unfold SmK at q ⊢
      rw [siN_out e3 hhi, ho (34 + 11 * l) (by omega), ho (34 + 11 * l + 3) (by omega), ho (34 + 11 * l + 4) (by omega)]
      exact q
  · rw [ho _ (by omega), ho _ (by omega)]
    exact i9 i (by unfold na at h1 ⊢; rw [e1] at h1; exact h1) h2
theorem q_switchServicer {K : Int} {Z : Zt} (hI : InvZ K Z) (a b : Int32) : Pair K Z (dc_X9_switchServicer a b) (dc_X10_switchServicer a b) := by
  have hc := hI.1.1
  by_cases h : isL Z.1 a
  · obtain ⟨i, hi, rfl⟩ := isL_of hc h
    have hi8 := hc.b.2
    have hL := hI.1.2.2.2.2.2.1 i hi
    by_cases hs : 0 ≤ b.toInt ∧ b.toInt < 4
    · by_cases hr1 : Z.1 (34 + 11 * i + 3) = 1
      · -- what is awaited
        by_cases hw : b = if Z.1 (34 + 11 * i + 10) = -5 then Z.1 (34 + 11 * i + 9) else Z.1 (34 + 11 * i + 10)
        · refine Pair.no hI (-5) (fun σ hr => ?_) (fun σ hr => ?_)
          · have q := hr.1.2.2.1 i (by omega)
            unfold dc_X9_switchServicer
            simp only [jn]
            rw [hasL_eq hr.1, bd_s, if_pos h, if_neg (by decide), xisS_eq, bd_s, if_pos hs, if_neg (by decide), xruns_eq hr.1 hc hi, bd_s, if_pos hr1, if_neg (by decide), if_pos (inb_nI (show i < 10 by omega) (by decide)), nI_clamp (by omega), q.2.2.2.2.2.2.2.2.2.2, q.2.2.2.2.2.2.2.2.2.1]
            by_cases c : Z.1 (34 + 11 * i + 10) = -5
            · rw [if_pos c] at hw
              rw [if_pos c, if_pos hw]
            · rw [if_neg c] at hw
              rw [if_neg c, if_pos hw]
          · obtain ⟨σ1, p1, p2, p3⟩ := aside_eq hr
            unfold dc_X10_switchServicer
            rw [p1, bv_s, isL_eq p2.1 hc, bd_s, if_pos h, if_neg (by decide), isS_eq, bd_s, if_pos hs, if_neg (by decide), runs_eq p2.1 (by omega), bd_s, if_pos hr1, if_neg (by decide), of_10 p2.1 (by omega), bd_s, of_9 p2.1 (by omega), bd_s]
            refine ⟨σ1, ?_, p2.out, p3⟩
            by_cases c : Z.1 (34 + 11 * i + 10) = -5
            · rw [if_pos c] at hw
              by_cases c2 : Z.1 (34 + 11 * i + 10) = b
              · rw [if_pos c2]
              · rw [if_neg c2, if_pos c, if_pos hw.symm]
            · rw [if_neg c] at hw
              rw [if_pos hw.symm]
        · refine Pair.act hI (Z.1 (34 + 11 * i + 9)) (upd Z.1 (34 + 11 * i + 10) b) ?_ (fun σ hr => ?_) (fun σ hr => ?_)
          · refine InvM_loan hI.1 hi (fun k hk => upd_ne (by omega)) ?_ ?_ ?_
            · unfold LoK at hL ⊢
              rw [upd_ne (show 0 ≠ 34 + 11 * i + 10 by omega), upd_ne (show 34 + 11 * i ≠ 34 + 11 * i + 10 by omega), upd_ne (show 34 + 11 * i + 1 ≠ 34 + 11 * i + 10 by omega), upd_ne (show 34 + 11 * i + 2 ≠ 34 + 11 * i + 10 by omega), upd_ne (show 34 + 11 * i + 3 ≠ 34 + 11 * i + 10 by omega), upd_ne (show 34 + 11 * i + 4 ≠ 34 + 11 * i + 10 by omega), upd_ne (show 34 + 11 * i + 5 ≠ 34 + 11 * i + 10 by omega), upd_ne (show 34 + 11 * i + 6 ≠ 34 + 11 * i + 10 by omega), upd_ne (show 34 + 11 * i + 7 ≠ 34 + 11 * i + 10 by omega), upd_ne (show 34 + 11 * i + 8 ≠ 34 + 11 * i + 10 by omega), upd_ne (show 34 + 11 * i + 9 ≠ 34 + 11 * i + 10 by omega), upd_eq]
              obtain ⟨k1, k2, k3, k4, k5, k6, k7, k8, k9, k10, k11, k12⟩ := hL
              exact ⟨k1, k2, k3, k4, k5, k6, k7, k8, k9, k10, Or.inr ⟨hs.1, by omega⟩, fun z => absurd hr1 z⟩
            · have q := hI.1.2.2.2.2.2.2.2.1 i hi
              unfold SmK at q ⊢
              rw [siN_out (upd_ne (by omega)) (fun k hk => upd_ne (by omega)), upd_ne (by omega), upd_ne (by omega), upd_ne (by omega)]
              exact q
            · rw [upd_ne (by omega)]; exact id
          · obtain ⟨σ1, p1, p2, p3⟩ := record_eq hr
            have q := hr.1.2.2.1 i (by omega)
            have q' := p2.1.2.2.1 i (by omega)
            refine ⟨σ1, up σ1 74 0 i b, p3, p2, ?_, FrJ_up rfl (FrJ.refl 0 σ1), Cla_up74 (by omega) p2.1⟩
            unfold dc_X9_switchServicer
            simp only [jn]
            rw [hasL_eq hr.1, bd_s, if_pos h, if_neg (by decide), xisS_eq, bd_s, if_pos hs, if_neg (by decide), xruns_eq hr.1 hc hi, bd_s, if_pos hr1, if_neg (by decide), if_pos (inb_nI (show i < 10 by omega) (by decide)), nI_clamp (by omega), q.2.2.2.2.2.2.2.2.2.2, q.2.2.2.2.2.2.2.2.2.1, p1, bv_s, up_ne (by decide), q'.2.2.2.2.2.2.2.2.2.1]
            by_cases c : Z.1 (34 + 11 * i + 10) = -5
            · rw [if_pos c] at hw
              rw [if_pos c, if_neg hw]
              rfl
            · rw [if_neg c] at hw
              rw [if_neg c, if_neg hw]
              rfl
          · obtain ⟨σ1, p1, p2, p3⟩ := aside_eq hr
            have r2 := RMid_now (k := 34 + 11 * i + 10) (v := b) p2
            have e9 : upd Z.1 (34 + 11 * i + 10) b (34 + 11 * i + 9) = Z.1 (34 + 11 * i + 9) := upd_ne (by omega)
            obtain ⟨υ, v1, v2, v3⟩ := acted_eq (Z.1 (34 + 11 * i + 9)) r2
            unfold dc_X10_switchServicer
            rw [p1, bv_s, isL_eq p2.1 hc, bd_s, if_pos h, if_neg (by decide), isS_eq, bd_s, if_pos hs, if_neg (by decide), runs_eq p2.1 (by omega), bd_s, if_pos hr1, if_neg (by decide), of_10 p2.1 (by omega), bd_s, of_9 p2.1 (by omega), bd_s, be_10 (by omega), bv_s, of_9 r2.1 (by omega), bd_s, e9, v1, bd_s]
            refine ⟨υ, ?_, v2, p3.trans (SameC.trans (SameC_up (f := 304) rfl) v3)⟩
            by_cases c : Z.1 (34 + 11 * i + 10) = -5
            · rw [if_pos c] at hw
              rw [if_neg (by rw [c]; intro z; rw [← z] at hs; exact absurd hs (by decide)), if_pos c, if_neg (fun z => hw z.symm)]
            · rw [if_neg c] at hw
              rw [if_neg (fun z => hw z.symm), if_neg c]
      · refine Pair.no hI (-4) (fun σ hr => ?_) (fun σ hr => ?_)
        · unfold dc_X9_switchServicer
          rw [hasL_eq hr.1, bd_s, if_pos h, if_neg (by decide), xisS_eq, bd_s, if_pos hs, if_neg (by decide), xruns_eq hr.1 hc hi, bd_s, if_neg hr1, if_pos rfl]
        · obtain ⟨σ1, p1, p2, p3⟩ := aside_eq hr
          unfold dc_X10_switchServicer
          rw [p1, bv_s, isL_eq p2.1 hc, bd_s, if_pos h, if_neg (by decide), isS_eq, bd_s, if_pos hs, if_neg (by decide), runs_eq p2.1 (by omega), bd_s, if_neg hr1, if_pos rfl]
          exact ⟨σ1, rfl, p2.out, p3⟩
    · refine Pair.no hI (-1) (fun σ hr => ?_) (fun σ hr => ?_)
      · unfold dc_X9_switchServicer
        rw [hasL_eq hr.1, bd_s, if_pos h, if_neg (by decide), xisS_eq, bd_s, if_neg hs, if_pos rfl]
      · obtain ⟨σ1, p1, p2, p3⟩ := aside_eq hr
        unfold dc_X10_switchServicer
        rw [p1, bv_s, isL_eq p2.1 hc, bd_s, if_pos h, if_neg (by decide), isS_eq, bd_s, if_neg hs, if_pos rfl]
        exact ⟨σ1, rfl, p2.out, p3⟩
  · refine Pair.no hI (-1) (fun σ hr => ?_) (fun σ hr => ?_)
    · unfold dc_X9_switchServicer
      rw [hasL_eq hr.1, bd_s, if_neg h, if_pos rfl]
    · obtain ⟨σ1, p1, p2, p3⟩ := aside_eq hr
      unfold dc_X10_switchServicer
      rw [p1, bv_s, isL_eq p2.1 hc, bd_s, if_neg h, if_pos rfl]
      exact ⟨σ1, rfl, p2.out, p3⟩
/-- divided, rounded up -/
theorem updiv {p q : Int32} (h1 : 0 ≤ p.toInt) (h2 : p.toInt ≤ 99999) (h3 : 1 ≤ q.toInt) (h4 : q.toInt ≤ 36) : 0 ≤ ((p + q - 1) / q).toInt ∧ ((p + q - 1) / q).toInt ≤ 99999 := by
  have e1 : (p + q).toInt = p.toInt + q.toInt := tadd (by omega) (by omega)
  have e2 : (p + q - 1).toInt = p.toInt + q.toInt - 1 := by
    rw [tsub] <;> rw [e1, show (1 : Int32).toInt = 1 from rfl]
    · omega
    · omega
  rw [tdiv (by omega) (by omega), e2]
  refine ⟨Int.ediv_nonneg (by omega) (by omega), ?_⟩
  have : (p.toInt + q.toInt - 1) / q.toInt < 100000 := Int.ediv_lt_of_lt_mul (by omega) (by omega)
  omega
theorem mupw_eq {σ : Sto} {p q : Int32} (h : 1 ≤ q.toInt) : dc_X10_upwards p q σ = some ((p + q - 1) / q, σ) := by
  unfold dc_X10_upwards
  rw [if_pos (fun z => by rw [z] at h; exact absurd h (by decide))]
theorem cdiv_eq {σ : Sto} {p q : Int32} (h : 1 ≤ q.toInt) : dc_X9_dividedUp p q σ = some ((p + q - 1) / q, σ) := by
  unfold dc_X9_dividedUp
  rw [if_pos (by rw [tle]; exact h), if_pos (fun z => by rw [z] at h; exact absurd h (by decide))]
theorem q_cure {K : Int} {Z : Zt} (hI : InvZ K Z) (a b : Int32) : Pair K Z (dc_X9_cure a b) (dc_X10_cure a b) := by
  have hc := hI.1.1
  by_cases h : isL Z.1 a
  · obtain ⟨i, hi, rfl⟩ := isL_of hc h
    have hi8 := hc.b.2
    have hL := hI.1.2.2.2.2.2.1 i hi
    have z1 : (1 : Int32).toInt = 1 := rfl
    have z36 : (36 : Int32).toInt = 36 := rfl
    by_cases hs : (1 : Int32).toInt ≤ b.toInt ∧ b.toInt ≤ (36 : Int32).toInt
    · by_cases hr1 : Z.1 (34 + 11 * i + 3) = 1 ∧ ¬ Z.1 (34 + 11 * i + 8) = 0 ∧ Z.1 (34 + 11 * i + 6) ≤ 0
      · obtain ⟨g1, g2, g3⟩ := hr1
        have hu := updiv (p := Z.1 (34 + 11 * i + 4)) (q := b) hL.2.2.2.2.1.1 hL.2.2.2.2.1.2 (by omega) (by omega)
        refine Pair.act hI ((Z.1 (34 + 11 * i + 4) + b - 1) / b) (upd (upd (upd Z.1 (34 + 11 * i + 7) 0) (34 + 11 * i + 8) 0) (34 + 11 * i + 5) ((Z.1 (34 + 11 * i + 4) + b - 1) / b)) ?_ (fun σ hr => ?_) (fun σ hr => ?_)
        · refine InvM_loan hI.1 hi (fun k hk => by rw [upd_ne (by omega), upd_ne (by omega), upd_ne (by omega)]) ?_ ?_ ?_
          · have g : ∀ k, k ≠ 34 + 11 * i + 7 → k ≠ 34 + 11 * i + 8 → k ≠ 34 + 11 * i + 5 → upd (upd (upd Z.1 (34 + 11 * i + 7) 0) (34 + 11 * i + 8) 0) (34 + 11 * i + 5) ((Z.1 (34 + 11 * i + 4) + b - 1) / b) k = Z.1 k := fun k q1 q2 q3 => by rw [upd_ne q3, upd_ne q2, upd_ne q1]
            unfold LoK at hL ⊢
            rw [g 0 (by omega) (by omega) (by omega), g (34 + 11 * i) (by omega) (by omega) (by omega), g (34 + 11 * i + 1) (by omega) (by omega) (by omega), g (34 + 11 * i + 2) (by omega) (by omega) (by omega), g (34 + 11 * i + 3) (by omega) (by omega) (by omega), g (34 + 11 * i + 4) (by omega) (by omega) (by omega), upd_eq, g (34 + 11 * i + 6) (by omega) (by omega) (by omega), upd_ne (show 34 + 11 * i + 7 ≠ 34 + 11 * i + 5 by omega), upd_ne (show 34 + 11 * i + 7 ≠ 34 + 11 * i + 8 by omega), upd_eq, upd_ne (show 34 + 11 * i + 8 ≠ 34 + 11 * i + 5 by omega), upd_eq, g (34 + 11 * i + 9) (by omega) (by omega) (by omega), g (34 + 11 * i + 10) (by omega) (by omega) (by omega)]
            obtain ⟨k1, k2, k3, k4, k5, k6, k7, k8, k9, k10, k11, k12⟩ := hL
            exact ⟨k1, k2, k3, k4, k5, fun _ => hu, k7, ⟨by decide, k5.1⟩, ⟨by decide, hI.1.2.1.1⟩, k10, k11, fun z => absurd g1 z⟩
          · have q := hI.1.2.2.2.2.2.2.2.1 i hi
            unfold SmK at q ⊢
            rw [siN_out (m := Z.1) (by rw [upd_ne (by omega), upd_ne (by omega), upd_ne (by omega)]) (fun k hk => by rw [upd_ne (by omega), upd_ne (by omega), upd_ne (by omega)])]
            rw [upd_ne (by omega), upd_ne (by omega), upd_ne (by omega), upd_ne (by omega), upd_ne (by omega), upd_ne (by omega), upd_ne (by omega), upd_ne (by omega), upd_ne (by omega)]
            exact q
          · rw [upd_ne (by omega), upd_ne (by omega), upd_ne (by omega)]; exact id
        · obtain ⟨σ1, p1, p2, p3⟩ := record_eq hr
          have q := hr.1.2.2.1 i (by omega)
          have q' := p2.1.2.2.1 i (by omega)
          refine ⟨σ1, up (up (up σ1 71 0 i 0) 72 0 i 0) 69 0 i ((Z.1 (34 + 11 * i + 4) + b - 1) / b), p3, p2, ?_, FrJ_up rfl (FrJ_up rfl (FrJ_up rfl (FrJ.refl 0 σ1))), Cla_up69 (by omega) (Cla_up72 (by omega) (Cla_up71 (by omega) p2.1))⟩
          unfold dc_X9_cure
          simp only [lt]
          rw [hasL_eq hr.1, bd_s, if_pos h, if_neg (by decide), isLM_eq, bd_s, rng, if_pos hs, if_neg (by decide), if_pos (inb_nI (show i < 10 by omega) (by decide)), nI_clamp (by omega), q.2.2.2.1, if_pos g1, q.2.2.2.2.2.2.2.2.1, if_neg g2, q.2.2.2.2.2.2.1, if_pos g3, p1, bv_s, up_ne (by decide), up_ne (by decide), q'.2.2.2.2.1, cdiv_eq (by omega), bd_s, up_eq]
          rfl
        · obtain ⟨σ1, p1, p2, p3⟩ := aside_eq hr
          have r2 := RMid_now (k := 34 + 11 * i + 8) (v := 0) (RMid_now (k := 34 + 11 * i + 7) (v := 0) p2)
          have r3 := RMid_now (k := 34 + 11 * i + 5) (v := (Z.1 (34 + 11 * i + 4) + b - 1) / b) r2
          have e4 : upd (upd Z.1 (34 + 11 * i + 7) 0) (34 + 11 * i + 8) 0 (34 + 11 * i + 4) = Z.1 (34 + 11 * i + 4) := by rw [upd_ne (by omega), upd_ne (by omega)]
          obtain ⟨υ, v1, v2, v3⟩ := acted_eq ((Z.1 (34 + 11 * i + 4) + b - 1) / b) r3
          unfold dc_X10_cure
          rw [p1, bv_s, isL_eq p2.1 hc, bd_s, if_pos h, if_neg (by decide), in_eq, bd_s, rng, if_pos hs, if_neg (by decide), runs_eq p2.1 (by omega), bd_s, if_pos g1, if_neg (by decide), of_8 p2.1 (by omega), bd_s, if_neg g2, of_6 p2.1 (by omega), bd_s, if_pos g3, be_7 (by omega), bv_s, be_8 (by omega), bv_s, of_4 r2.1 (by omega), bd_s, e4, mupw_eq (by omega), bd_s, be_5 (by omega), bv_s, of_5 r3.1 (by omega), bd_s, upd_eq, v1]
          exact ⟨υ, rfl, v2, p3.trans (SameC.trans (SameC.trans (SameC_up (f := 304) rfl) (SameC.trans (SameC_up (f := 304) rfl) (SameC_up (f := 304) rfl))) v3)⟩
      · refine Pair.no hI (-4) (fun σ hr => ?_) (fun σ hr => ?_)
        · have q := hr.1.2.2.1 i (by omega)
          unfold dc_X9_cure
          rw [hasL_eq hr.1, bd_s, if_pos h, if_neg (by decide), isLM_eq, bd_s, rng, if_pos hs, if_neg (by decide), if_pos (inb_nI (show i < 10 by omega) (by decide)), nI_clamp (by omega), q.2.2.2.1, q.2.2.2.2.2.2.2.2.1, q.2.2.2.2.2.2.1]
          by_cases g1 : Z.1 (34 + 11 * i + 3) = 1
          · rw [if_pos g1]
            by_cases g2 : Z.1 (34 + 11 * i + 8) = 0
            · rw [if_pos g2]
            · rw [if_neg g2, if_neg (fun g3 => hr1 ⟨g1, g2, g3⟩)]
          · rw [if_neg g1]
        · obtain ⟨σ1, p1, p2, p3⟩ := aside_eq hr
          unfold dc_X10_cure
          rw [p1, bv_s, isL_eq p2.1 hc, bd_s, if_pos h, if_neg (by decide), in_eq, bd_s, rng, if_pos hs, if_neg (by decide), runs_eq p2.1 (by omega), bd_s, of_8 p2.1 (by omega), bd_s, of_6 p2.1 (by omega), bd_s]
          refine ⟨σ1, ?_, p2.out, p3⟩
          by_cases g1 : Z.1 (34 + 11 * i + 3) = 1
          · rw [if_pos g1, if_neg (by decide)]
            by_cases g2 : Z.1 (34 + 11 * i + 8) = 0
            · rw [if_pos g2]
            · rw [if_neg g2, if_neg (fun g3 => hr1 ⟨g1, g2, g3⟩)]
          · rw [if_neg g1, if_pos rfl]
    · refine Pair.no hI (-2) (fun σ hr => ?_) (fun σ hr => ?_)
      · unfold dc_X9_cure
        rw [hasL_eq hr.1, bd_s, if_pos h, if_neg (by decide), isLM_eq, bd_s, rng, if_neg hs, if_pos rfl]
      · obtain ⟨σ1, p1, p2, p3⟩ := aside_eq hr
        unfold dc_X10_cure
        rw [p1, bv_s, isL_eq p2.1 hc, bd_s, if_pos h, if_neg (by decide), in_eq, bd_s, rng, if_neg hs, if_pos rfl]
        exact ⟨σ1, rfl, p2.out, p3⟩
  · refine Pair.no hI (-1) (fun σ hr => ?_) (fun σ hr => ?_)
    · unfold dc_X9_cure
      rw [hasL_eq hr.1, bd_s, if_neg h, if_pos rfl]
    · obtain ⟨σ1, p1, p2, p3⟩ := aside_eq hr
      unfold dc_X10_cure
      rw [p1, bv_s, isL_eq p2.1 hc, bd_s, if_neg h, if_pos rfl]
      exact ⟨σ1, rfl, p2.out, p3⟩
