/-! acts: investors, the pool's share, paying out -/
theorem upd_same {f : Nat → Int32} {k : Nat} {v : Int32} (h : f k = v) : upd f k v = f := by
  funext i
  by_cases e : i = k
  · rw [e, upd_eq, h]
  · rw [upd_ne e]
theorem si_congr {f g : Nat → Int} : ∀ {n : Nat}, (∀ k, k < n → f k = g k) → si f n = si g n
  | 0, _ => rfl
  | n + 1, h => by
    show si f n + f n = si g n + g n
    rw [si_congr fun k hk => h k (by omega), h n (by omega)]
theorem InvM_low {K K' : Int} {m m' : Mt} (h : InvM K m) (h34 : ∀ k, 34 ≤ k → m' k = m k) (h0 : m' 0 = m 0) (h2 : m' 2 = m 2) (h3 : m' 3 = m 3) (h1 : (m 1).toInt ≤ (m' 1).toInt ∧ (m' 1).toInt ≤ 8) (h5 : 0 ≤ (m' 5).toInt ∧ (m' 5).toInt ≤ 50) (h4 : 0 ≤ (m' 4).toInt ∧ (m' 4).toInt ≤ K') (hc : ∀ i, i < 8 → 0 ≤ (m' (10 + 3 * i)).toInt) (hd : ∀ i, na m' ≤ i → i < 8 → m' (10 + 3 * i + 1) = 0 ∧ m' (10 + 3 * i + 2) = 0) : InvM K' m' := by
  obtain ⟨i1, i2, i3, i4, i5, i6, i7, i8, i9⟩ := h
  refine ⟨⟨⟨by have := i1.1.1; omega, h1.2⟩, by rw [h2]; exact i1.2.1, by rw [h3]; exact i1.2.2⟩, by rw [h0]; exact i2, h5, h4, hc, fun l hl => ?_, fun n hn => ?_, fun l hl => ?_, hd⟩
  · have hl' : l < nb m := by unfold nb at hl; rw [h2] at hl; exact hl
    have q := i6 l hl'
    unfold LoK at q ⊢
    rw [h0, h34 (34 + 11 * l) (by omega), h34 (34 + 11 * l + 1) (by omega), h34 (34 + 11 * l + 2) (by omega), h34 (34 + 11 * l + 3) (by omega), h34 (34 + 11 * l + 4) (by omega), h34 (34 + 11 * l + 5) (by omega), h34 (34 + 11 * l + 6) (by omega), h34 (34 + 11 * l + 7) (by omega), h34 (34 + 11 * l + 8) (by omega), h34 (34 + 11 * l + 9) (by omega), h34 (34 + 11 * l + 10) (by omega)]
    exact q
  · have hn' : n < nc m := by unfold nc at hn; rw [h3] at hn; exact hn
    obtain ⟨q1, q2, q3, q4, q5⟩ := i7 n hn'
    unfold NoK isI isL
    rw [h2, h34 (144 + 7 * n) (by omega), h34 (144 + 7 * n + 1) (by omega), h34 (144 + 7 * n + 2) (by omega), h34 (144 + 7 * n + 3) (by omega), h34 (144 + 7 * n + 6) (by omega), h34 (34 + 11 * _ + 3) (by omega)]
    exact ⟨⟨q1.1, Int.lt_of_lt_of_le q1.2 h1.1⟩, q2, q3, q4, q5⟩
  · have hl' : l < nb m := by unfold nb at hl; rw [h2] at hl; exact hl
    have e : siN m' (nI l) = siN m (nI l) := by
      unfold siN nc
      rw [h3]
      exact si_congr fun n _ => by rw [h34 (144 + 7 * n + 1) (by omega), h34 (144 + 7 * n + 3) (by omega)]
    unfold SmK
    rw [e, h34 (34 + 11 * l + 3) (by omega), h34 (34 + 11 * l + 4) (by omega), h34 (34 + 11 * l) (by omega)]
    exact i8 l hl'
theorem l64 (x y : Int32) : (x.toInt64 + y.toInt64).toInt = x.toInt + y.toInt := by
  rw [Int64.toInt_add, Int32.toInt_toInt64, Int32.toInt_toInt64]
  have h1 := tlo x
  have h2 := thi x
  have h3 := tlo y
  have h4 := thi y
  have e : ((2 : Nat) ^ 64 : Nat) = 18446744073709551616 := rfl
  unfold Int.bmod
  simp only [e]
  omega
theorem lgm (x y : Int32) : (lg_cmp (x.toInt64 + y.toInt64) 2147483647 ≤ 0) ↔ x.toInt + y.toInt ≤ 2147483647 := by
  rw [lg_cmp_le, Int64.le_iff_toInt_le, l64]
  exact Iff.rfl
def Fr5 (σ τ : Sto) : Prop := SameC σ τ ∧ τ.1 384 = σ.1 384 ∧ τ.1 400 = σ.1 400
theorem Fr5.trans {σ τ υ : Sto} (h : Fr5 σ τ) (h2 : Fr5 τ υ) : Fr5 σ υ := ⟨h.1.trans h2.1, h2.2.1.trans h.2.1, h2.2.2.trans h.2.2⟩
theorem Fr5.refl (σ : Sto) : Fr5 σ σ := ⟨SameC.refl σ, rfl, rfl⟩
theorem RMid_now {σ : Sto} {Z : Zt} {m : Mt} {o v : Int32} {k : Nat} (h : RMid σ Z m o) : RMid (up σ 304 0 k v) Z (upd m k v) o := ⟨Mod_up h.1, RMx_up h.2.1 (by decide), fun i hi => by rw [up_ne (by decide)]; exact h.2.2.1 i hi, by rw [up_ne (by decide)]; exact h.2.2.2⟩
theorem RMid_flag {σ : Sto} {Z : Zt} {m : Mt} {o v : Int32} (h : RMid σ Z m o) : RMid (up σ 169 0 0 v) Z m v := ⟨Mod_un h.1 (by decide), RMx_up h.2.1 (by decide), fun i hi => by rw [up_ne (by decide)]; exact h.2.2.1 i hi, up_eq⟩
theorem Fr5_now {σ : Sto} {k : Nat} {v : Int32} : Fr5 σ (up σ 304 0 k v) := ⟨SameC_up rfl, up_f (by decide), up_f (by decide)⟩
theorem Fr5_flag {σ : Sto} {v : Int32} : Fr5 σ (up σ 169 0 0 v) := ⟨SameC_up rfl, up_f (by decide), up_f (by decide)⟩
theorem payOut_ok {σ : Sto} {Z : Zt} {m : Mt} {i : Nat} {c : Int32} (h : RMid σ Z m 0) (hi : i < 8) (hle : (m (10 + 3 * i)).toInt + c.toInt ≤ 2147483647) : ∃ τ, dc_X10_payOut (nI i) c σ = some τ ∧ RMid τ Z (upd m (10 + 3 * i) (m (10 + 3 * i) + c)) 0 ∧ Fr5 σ τ := by
  unfold dc_X10_payOut
  simp only [jn, lt]
  have e1 : ((10 : Int32) + (3 : Int32) * nI i) + (0 : Int32) = nI (10 + 3 * i) := by rw [x10, Int32.add_zero]
  simp only [e1, nI_clamp (show 10 + 3 * i < 2 ^ 31 by omega), if_pos (inb_nI (show 10 + 3 * i < 564 by omega) (by decide)), h.2.2.2, h.1 _ (show 10 + 3 * i < 564 by omega), if_pos ((lgm _ _).mpr hle), if_true, up_eq, up_ne (show 304 ≠ 169 by decide), true_or]
  exact ⟨_, rfl, RMid_now (RMid_flag h), Fr5.trans Fr5_flag Fr5_now⟩
theorem payOut_no {σ : Sto} {Z : Zt} {m : Mt} {o : Int32} {i : Nat} {c : Int32} (h : RMid σ Z m o) (hi : i < 8) (ho : ¬ (o = 0 ∧ (m (10 + 3 * i)).toInt + c.toInt ≤ 2147483647)) : ∃ τ, dc_X10_payOut (nI i) c σ = some τ ∧ RMid τ Z m 1 ∧ Fr5 σ τ := by
  unfold dc_X10_payOut
  simp only [jn, lt]
  have e1 : ((10 : Int32) + (3 : Int32) * nI i) + (0 : Int32) = nI (10 + 3 * i) := by rw [x10, Int32.add_zero]
  have e2 : upd m (10 + 3 * i) (m (10 + 3 * i) + 0) = m := upd_same (Int32.add_zero _).symm
  have z1 : ¬ (1 : Int32) = 0 := by decide
  have key : RMid (up (up σ 169 0 0 1) 304 0 (10 + 3 * i) (m (10 + 3 * i) + 0)) Z m 1 := by
    have := RMid_now (k := 10 + 3 * i) (v := m (10 + 3 * i) + 0) (RMid_flag (v := 1) h)
    rw [e2] at this
    exact this
  simp only [e1, nI_clamp (show 10 + 3 * i < 2 ^ 31 by omega), if_pos (inb_nI (show 10 + 3 * i < 564 by omega) (by decide)), h.2.2.2, h.1 _ (show 10 + 3 * i < 564 by omega), up_eq, up_ne (show 304 ≠ 169 by decide), or_true, if_true, z1, if_false]
  by_cases c0 : o = 0
  · rw [if_pos c0, if_neg (fun q => ho ⟨c0, (lgm _ _).mp q⟩)]
    exact ⟨_, rfl, key, Fr5.trans Fr5_flag Fr5_now⟩
  · rw [if_neg c0]
    exact ⟨_, rfl, key, Fr5.trans Fr5_flag Fr5_now⟩
theorem q_addInvestor {K : Int} {Z : Zt} (hI : InvZ K Z) (a : Int32) : Pair K Z (dc_X9_addInvestor a) (dc_X10_addInvestor a) := by
  have hc := hI.1.1
  obtain ⟨e1, ha8⟩ := hc.a
  by_cases h0 : 0 ≤ a
  · by_cases h8 : na Z.1 = 8
    · refine Pair.no hI (-3) (fun σ hr => ?_) (fun σ hr => ?_)
      · unfold dc_X9_addInvestor
        rw [if_pos h0, hr.1.1.2.1, e1, h8, if_neg (by decide)]
      · obtain ⟨σ1, p1, p2, p3⟩ := aside_eq hr
        unfold dc_X10_addInvestor
        rw [p1, bv_s, if_pos h0, if_pos ib_1, cl_1, p2.1 1 (by decide), e1, h8, if_pos (by decide)]
        exact ⟨σ1, rfl, p2.out, p3⟩
    · have hd := hI.1.2.2.2.2.2.2.2.2 (na Z.1) (Nat.le_refl _) (by omega)
      refine Pair.act hI (Z.1 1) (upd (upd Z.1 (10 + 3 * na Z.1) a) 1 (Z.1 1 + 1)) ?_ (fun σ hr => ?_) (fun σ hr => ?_)
      · have e2 : (Z.1 1 + 1).toInt = (Z.1 1).toInt + 1 := by
          have := hc.1.2
          rw [tadd] <;> rw [show (1 : Int32).toInt = 1 from rfl] <;> (have := hc.1.1; omega)
        have e8 : (Z.1 1).toInt = na Z.1 := (clI hc.1.1).symm
        have na' : na (upd (upd Z.1 (10 + 3 * na Z.1) a) 1 (Z.1 1 + 1)) = na Z.1 + 1 := by
          unfold na
          rw [upd_eq, tcl, e2]
          show _ = (Z.1 1).toNatClampNeg + 1
          rw [tcl]
          have := hc.1.1
          omega
        refine InvM_low hI.1 (fun k hk => ?_) ?_ ?_ ?_ ⟨?_, ?_⟩ ?_ ?_ (fun i hi => ?_) (fun i h1 h2 => ?_)
        · rw [upd_ne (by omega), upd_ne (by omega)]
        · rw [upd_ne (by omega), upd_ne (by omega)]
        · rw [upd_ne (by omega), upd_ne (by omega)]
        · rw [upd_ne (by omega), upd_ne (by omega)]
        · rw [upd_eq, e2]; omega
        · rw [upd_eq, e2]; omega
        · rw [upd_ne (by omega), upd_ne (by omega)]; exact hI.1.2.2.1
        · rw [upd_ne (by omega), upd_ne (by omega)]; exact hI.1.2.2.2.1
        · rw [upd_ne (by omega)]
          by_cases e : i = na Z.1
          · rw [e, upd_eq]; exact (tle 0 a).mp h0
          · rw [upd_ne (by omega)]; exact hI.1.2.2.2.2.1 i hi
        · rw [na'] at h1
          rw [upd_ne (by omega), upd_ne (by omega), upd_ne (by omega), upd_ne (by omega)]
          exact hI.1.2.2.2.2.2.2.2.2 i (by omega) h2
      · obtain ⟨σ1, p1, p2, p3⟩ := record_eq hr
        have q := p2.1
        have q1 : σ1.1 84 0 0 = nI (na Z.1) := q.1.2.1.trans e1
        refine ⟨σ1, up (up (up (up σ1 48 0 (na Z.1) a) 49 0 (na Z.1) 0) 50 0 (na Z.1) 0) 84 0 0 (Z.1 1 + 1), p3, p2, ?_, FrJ_up rfl (FrJ_up rfl (FrJ_up rfl (FrJ_up rfl (FrJ.refl 0 σ1)))), ?_⟩
        rotate_left
        · have c4 := Cla_up84 (v := Z.1 1 + 1) (Cla_up50 (v := 0) (i0 := na Z.1) (by omega) (Cla_up49 (v := 0) (i0 := na Z.1) (by omega) (Cla_up48 (v := a) (i0 := na Z.1) (by omega) q)))
          rw [upd_same (f := upd (upd _ _ _) _ _) (v := 0) (by rw [upd_ne (by omega), upd_ne (by omega)]; exact hd.2), upd_same (f := upd _ _ _) (v := 0) (by rw [upd_ne (by omega)]; exact hd.1)] at c4
          exact c4
        · unfold dc_X9_addInvestor dc_X3_open
          simp only [lt]
          rw [if_pos h0, hr.1.1.2.1, e1, if_pos (by rw [show (8 : Int32) = nI 8 from rfl, nI_ltI (by omega) (by omega)]; omega), p1, bv_s, q1, if_pos (inb_nI (show na Z.1 < 8 by omega) (by decide)), nI_clamp (by omega), bv_s, up_ne (by decide), up_ne (by decide), up_ne (by decide), q1, ← e1]
      · obtain ⟨σ1, p1, p2, p3⟩ := aside_eq hr
        unfold dc_X10_addInvestor
        simp only [lt]
        have e3 : ¬ nI (na Z.1) = 8 := by rw [show (8 : Int32) = nI 8 from rfl, nI_eq (by omega) (by omega)]; exact h8
        have u1 : σ1.1 304 0 1 = nI (na Z.1) := (p2.1 1 (by decide)).trans e1
        rw [p1, bv_s, if_pos h0, if_pos ib_1, cl_1, u1, if_neg e3, if_pos ib_1, x10, if_pos (inb_nI (show 10 + 3 * na Z.1 < 564 by omega) (by decide)), if_pos ib_1, if_pos ib_1, if_pos ib_1, nI_clamp (by omega), up_eq, up_nl (by omega), u1]
        have e4 : nI (na Z.1) + 1 - 1 = Z.1 1 := by rw [Int32.add_sub_cancel, e1]
        rw [e4]
        obtain ⟨υ, v1, v2, v3⟩ := acted_eq (Z.1 1) (RMid_now (k := 1) (v := nI (na Z.1) + 1) (RMid_now (k := 10 + 3 * na Z.1) (v := a) p2))
        rw [v1, bd_s]
        rw [← e1] at v2
        exact ⟨υ, rfl, v2, SameC.trans p3 (SameC.trans (SameC.trans (SameC_up (f := 304) rfl) (SameC_up (f := 304) rfl)) v3)⟩
  · refine Pair.no hI (-2) (fun σ hr => ?_) (fun σ hr => ?_)
    · unfold dc_X9_addInvestor
      rw [if_neg h0]
    · obtain ⟨σ1, p1, p2, p3⟩ := aside_eq hr
      unfold dc_X10_addInvestor
      rw [p1, bv_s, if_neg h0]
      exact ⟨σ1, rfl, p2.out, p3⟩
theorem q_deposit {K : Int} {Z : Zt} (hI : InvZ K Z) (a b : Int32) : Pair K Z (dc_X9_deposit a b) (dc_X10_deposit a b) := by
  have hc := hI.1.1
  by_cases h : isI Z.1 a
  · obtain ⟨i, hi, rfl⟩ := isI_of hc h
    have hi8 := hc.a.2
    have hcash := hI.1.2.2.2.2.1 i (by omega)
    have z1 : (1 : Int32).toInt = 1 := rfl
    by_cases h1 : 1 ≤ b
    · have h1' := (tle 1 b).mp h1
      rw [z1] at h1'
      have es : ((2147483647 : Int32) - Z.1 (10 + 3 * i)).toInt = 2147483647 - (Z.1 (10 + 3 * i)).toInt := by
        have := thi (Z.1 (10 + 3 * i))
        rw [tsub] <;> rw [show (2147483647 : Int32).toInt = 2147483647 from rfl] <;> omega
      have eo : (b ≤ (2147483647 : Int32) - Z.1 (10 + 3 * i)) ↔ (Z.1 (10 + 3 * i)).toInt + b.toInt ≤ 2147483647 := by
        rw [tle, es]; omega
      by_cases h2 : (Z.1 (10 + 3 * i)).toInt + b.toInt ≤ 2147483647
      · refine Pair.act hI (Z.1 (10 + 3 * i) + b) (upd Z.1 (10 + 3 * i) (Z.1 (10 + 3 * i) + b)) ?_ (fun σ hr => ?_) (fun σ hr => ?_)
        · refine InvM_low hI.1 (fun k hk => upd_ne (by omega)) (upd_ne (by omega)) (upd_ne (by omega)) (upd_ne (by omega)) ?_ ?_ ?_ (fun k hk => ?_) (fun k q1 q2 => ?_)
          · rw [upd_ne (by omega)]; exact ⟨Int.le_refl _, hc.1.2⟩
          · rw [upd_ne (by omega)]; exact hI.1.2.2.1
          · rw [upd_ne (by omega)]; exact hI.1.2.2.2.1
          · by_cases e : k = i
            · rw [e, upd_eq, tadd] <;> omega
            · rw [upd_ne (by omega)]; exact hI.1.2.2.2.2.1 k hk
          · unfold na at q1
            rw [upd_ne (by omega)] at q1
            rw [upd_ne (by omega), upd_ne (by omega)]
            exact hI.1.2.2.2.2.2.2.2.2 k q1 q2
        · obtain ⟨σ1, p1, p2, p3⟩ := record_eq hr
          have q := (hr.1.2.1 i (by omega)).1
          have q' := (p2.1.2.1 i (by omega)).1
          refine ⟨σ1, up σ1 48 0 i (Z.1 (10 + 3 * i) + b), p3, p2, ?_, FrJ_up rfl (FrJ.refl 0 σ1), Cla_up48 (by omega) p2.1⟩
          unfold dc_X9_deposit
          rw [hasI_eq hr.1, bd_s, if_pos h, if_neg (by decide), if_pos h1, if_pos (inb_nI (show i < 8 by omega) (by decide)), nI_clamp (by omega), q, if_pos (eo.mpr h2), p1, bv_s, if_pos (inb_nI (show i < 8 by omega) (by decide)), if_pos (inb_nI (show i < 8 by omega) (by decide)), q', up_eq]
          rfl
        · obtain ⟨σ1, p1, p2, p3⟩ := aside_eq hr
          obtain ⟨σ2, s1, s2, s3⟩ := payOut_ok (c := b) p2 (show i < 8 by omega) h2
          obtain ⟨υ, v1, v2, v3⟩ := acted_eq (Z.1 (10 + 3 * i) + b) s2
          unfold dc_X10_deposit
          rw [p1, bv_s, isI_eq p2.1 hc, bd_s, if_pos h, if_neg (by decide), if_pos h1, s1, bv_s, x10, if_pos (inb_nI (show 10 + 3 * i < 564 by omega) (by decide)), nI_clamp (by omega), s2.1 _ (by omega), upd_eq, v1]
          exact ⟨υ, rfl, v2, p3.trans (s3.1.trans v3)⟩
      · refine Pair.no hI (-3) (fun σ hr => ?_) (fun σ hr => ?_)
        · have q := (hr.1.2.1 i (by omega)).1
          unfold dc_X9_deposit
          rw [hasI_eq hr.1, bd_s, if_pos h, if_neg (by decide), if_pos h1, if_pos (inb_nI (show i < 8 by omega) (by decide)), nI_clamp (by omega), q, if_neg (fun z => h2 (eo.mp z))]
        · obtain ⟨σ1, p1, p2, p3⟩ := aside_eq hr
          obtain ⟨σ2, s1, s2, s3⟩ := payOut_no (c := b) p2 (show i < 8 by omega) (fun z => h2 z.2)
          obtain ⟨υ, v1, v2, v3⟩ := acted_over (σ2.1 304 0 (10 + 3 * i)) (by decide) s2
          unfold dc_X10_deposit
          rw [p1, bv_s, isI_eq p2.1 hc, bd_s, if_pos h, if_neg (by decide), if_pos h1, s1, bv_s, x10, if_pos (inb_nI (show 10 + 3 * i < 564 by omega) (by decide)), nI_clamp (by omega), v1]
          exact ⟨υ, rfl, v2, p3.trans (s3.1.trans v3)⟩
    · refine Pair.no hI (-2) (fun σ hr => ?_) (fun σ hr => ?_)
      · unfold dc_X9_deposit
        rw [hasI_eq hr.1, bd_s, if_pos h, if_neg (by decide), if_neg h1]
      · obtain ⟨σ1, p1, p2, p3⟩ := aside_eq hr
        unfold dc_X10_deposit
        rw [p1, bv_s, isI_eq p2.1 hc, bd_s, if_pos h, if_neg (by decide), if_neg h1]
        exact ⟨σ1, rfl, p2.out, p3⟩
  · refine Pair.no hI (-1) (fun σ hr => ?_) (fun σ hr => ?_)
    · unfold dc_X9_deposit
      rw [hasI_eq hr.1, bd_s, if_neg h, if_pos rfl]
    · obtain ⟨σ1, p1, p2, p3⟩ := aside_eq hr
      unfold dc_X10_deposit
      rw [p1, bv_s, isI_eq p2.1 hc, bd_s, if_neg h, if_pos rfl]
      exact ⟨σ1, rfl, p2.out, p3⟩
theorem q_setPoolShare {K : Int} {Z : Zt} (hI : InvZ K Z) (a : Int32) : Pair K Z (dc_X9_setPoolShare a) (dc_X10_setPoolShare a) := by
  have hc := hI.1.1
  have z0 : (0 : Int32).toInt = 0 := rfl
  have z50 : (50 : Int32).toInt = 50 := rfl
  by_cases h : (0 : Int32).toInt ≤ a.toInt ∧ a.toInt ≤ (50 : Int32).toInt
  · have c1 : ¬ a < 0 := by rw [tlt, z0]; omega
    have c2 : a ≤ 50 := by rw [tle, z50]; omega
    by_cases h2 : Z.1 5 = a
    · refine Pair.no hI (-5) (fun σ hr => ?_) (fun σ hr => ?_)
      · unfold dc_X9_setPoolShare
        rw [if_neg c1, if_pos c2, hr.1.1.2.2.2.2.2.1, if_pos h2.symm]
      · obtain ⟨σ1, p1, p2, p3⟩ := aside_eq hr
        unfold dc_X10_setPoolShare
        rw [p1, bv_s, in_eq, bd_s, rng, if_pos h, if_neg (by decide), if_pos ib_5, cl_5, p2.1 5 (by decide), if_pos h2]
        exact ⟨σ1, rfl, p2.out, p3⟩
    · refine Pair.act hI (Z.1 5) (upd Z.1 5 a) ?_ (fun σ hr => ?_) (fun σ hr => ?_)
      · refine InvM_low hI.1 (fun k hk => upd_ne (by omega)) (upd_ne (by omega)) (upd_ne (by omega)) (upd_ne (by omega)) ?_ ?_ ?_ (fun k hk => ?_) (fun k q1 q2 => ?_)
        · rw [upd_ne (by omega)]; exact ⟨Int.le_refl _, hc.1.2⟩
        · rw [upd_eq]; omega
        · rw [upd_ne (by omega)]; exact hI.1.2.2.2.1
        · rw [upd_ne (by omega)]; exact hI.1.2.2.2.2.1 k hk
        · unfold na at q1
          rw [upd_ne (by omega)] at q1
          rw [upd_ne (by omega), upd_ne (by omega)]
          exact hI.1.2.2.2.2.2.2.2.2 k q1 q2
      · obtain ⟨σ1, p1, p2, p3⟩ := record_eq hr
        refine ⟨σ1, up σ1 89 0 0 a, p3, p2, ?_, FrJ_up rfl (FrJ.refl 0 σ1), Cla_up89 p2.1⟩
        unfold dc_X9_setPoolShare
        rw [if_neg c1, if_pos c2, hr.1.1.2.2.2.2.2.1, if_neg (fun z => h2 z.symm), p1, bv_s, p2.1.1.2.2.2.2.2.1]
        rfl
      · obtain ⟨σ1, p1, p2, p3⟩ := aside_eq hr
        obtain ⟨υ, v1, v2, v3⟩ := acted_eq (Z.1 5) (RMid_now (k := 5) (v := a) p2)
        unfold dc_X10_setPoolShare
        rw [p1, bv_s, in_eq, bd_s, rng, if_pos h, if_neg (by decide), if_pos ib_5, cl_5, p2.1 5 (by decide), if_neg h2, if_pos ib_5, v1]
        exact ⟨υ, rfl, v2, p3.trans (SameC.trans (SameC_up (f := 304) rfl) v3)⟩
  · refine Pair.no hI (-2) (fun σ hr => ?_) (fun σ hr => ?_)
    · unfold dc_X9_setPoolShare
      by_cases c1 : a < 0
      · rw [if_pos c1]
      · rw [if_neg c1, if_neg (by rw [tle, z50]; rw [tlt, z0] at c1; omega)]
    · obtain ⟨σ1, p1, p2, p3⟩ := aside_eq hr
      unfold dc_X10_setPoolShare
      rw [p1, bv_s, in_eq, bd_s, rng, if_neg h, if_pos rfl]
      exact ⟨σ1, rfl, p2.out, p3⟩
