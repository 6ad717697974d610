/-! months pass -/
def mArr (m : Mt) (p : Nat) : Int32 := if 0 < m (p + 6) then m (p + 8) + 1 else if m (p + 7) ≤ 0 then 0 else m (p + 8) + 1
def mSrv (m : Mt) (p : Nat) : Int32 := if m (p + 10) = -5 then m (p + 9) else m (p + 10)
def mInt (m : Mt) (p : Nat) : Int32 := m (p + 6) + m (p + 4) * m (p + 1) / 1000
def mDue (m : Mt) (p : Nat) : Int32 := jmin (m (p + 4)) (m (p + 7) + m (p + 5))
def monL (m : Mt) (p : Nat) : Mt := upd (upd (upd (upd (upd m (p + 9) (mSrv m p)) (p + 10) (-5)) (p + 8) (mArr m p)) (p + 6) (mInt m p)) (p + 7) (mDue m p)
theorem upd_self (f : Nat → Int32) (k : Nat) : upd f k (f k) = f := upd_same rfl
theorem monL_c {σ : Sto} {m : Mt} {l : Nat} (hl : l < 10) (h : Cla σ 0 m) : ∃ τ, dc_X4_passMonth 0 l σ = some τ ∧ FrJ 0 σ τ ∧ Cla τ 0 (monL m (34 + 11 * l)) := by
  have q := h.2.2.1 l hl
  unfold dc_X4_passMonth
  simp only [jn, lt]
  by_cases e : m (34 + 11 * l + 10) = -5
  · rw [q.2.2.2.2.2.2.2.2.2.2, if_pos e]
    simp (disch := decide) only [up_ne, up_eq]
    simp only [q.2.2.2.2.2.2.1, q.2.2.2.2.2.2.2.1, q.2.2.2.2.2.2.2.2.1, q.2.2.2.2.1, q.2.1, q.2.2.2.2.2.1]
    refine ⟨up (up (up σ 72 0 l (mArr m (34 + 11 * l))) 70 0 l (mInt m (34 + 11 * l))) 71 0 l (mDue m (34 + 11 * l)), ?_, FrJ_up rfl (FrJ_up rfl (FrJ_up rfl (FrJ.refl 0 σ))), ?_⟩
    · unfold mArr mInt mDue
      by_cases c1 : 0 < m (34 + 11 * l + 6)
      · rw [if_pos c1, if_pos c1]
      · rw [if_neg c1, if_neg c1]
        by_cases c2 : m (34 + 11 * l + 7) ≤ 0
        · rw [if_pos c2, if_pos c2]
        · rw [if_neg c2, if_neg c2]
    · have c := Cla_up71 (v := mDue m (34 + 11 * l)) hl (Cla_up70 (v := mInt m (34 + 11 * l)) hl (Cla_up72 (v := mArr m (34 + 11 * l)) hl h))
      have e2 : monL m (34 + 11 * l) = upd (upd (upd m (34 + 11 * l + 8) (mArr m (34 + 11 * l))) (34 + 11 * l + 6) (mInt m (34 + 11 * l))) (34 + 11 * l + 7) (mDue m (34 + 11 * l)) := by
        unfold monL mSrv
        rw [if_pos e, upd_self, upd_same e]
      rw [e2]
      exact c
  · rw [q.2.2.2.2.2.2.2.2.2.2, if_neg e]
    simp (disch := decide) only [up_ne, up_eq]
    simp only [q.2.2.2.2.2.2.1, q.2.2.2.2.2.2.2.1, q.2.2.2.2.2.2.2.2.1, q.2.2.2.2.1, q.2.1, q.2.2.2.2.2.1]
    refine ⟨up (up (up (up (up σ 73 0 l (m (34 + 11 * l + 10))) 74 0 l (-5)) 72 0 l (mArr m (34 + 11 * l))) 70 0 l (mInt m (34 + 11 * l))) 71 0 l (mDue m (34 + 11 * l)), ?_, FrJ_up rfl (FrJ_up rfl (FrJ_up rfl (FrJ_up rfl (FrJ_up rfl (FrJ.refl 0 σ))))), ?_⟩
    · unfold mArr mInt mDue
      by_cases c1 : 0 < m (34 + 11 * l + 6)
      · rw [if_pos c1, if_pos c1]
      · rw [if_neg c1, if_neg c1]
        by_cases c2 : m (34 + 11 * l + 7) ≤ 0
        · rw [if_pos c2, if_pos c2]
        · rw [if_neg c2, if_neg c2]
    · have c := Cla_up71 (v := mDue m (34 + 11 * l)) hl (Cla_up70 (v := mInt m (34 + 11 * l)) hl (Cla_up72 (v := mArr m (34 + 11 * l)) hl (Cla_up74 (v := -5) hl (Cla_up73 (v := m (34 + 11 * l + 10)) hl h))))
      have e2 : monL m (34 + 11 * l) = upd (upd (upd (upd (upd m (34 + 11 * l + 9) (m (34 + 11 * l + 10))) (34 + 11 * l + 10) (-5)) (34 + 11 * l + 8) (mArr m (34 + 11 * l))) (34 + 11 * l + 6) (mInt m (34 + 11 * l))) (34 + 11 * l + 7) (mDue m (34 + 11 * l)) := by
        unfold monL mSrv
        rw [if_neg e]
      rw [e2]
      exact c
theorem monL_m {σ : Sto} {Z : Zt} {m : Mt} {o : Int32} {l : Nat} (hl : l < 10) (h : RMid σ Z m o) (k7 : 0 ≤ (m (34 + 11 * l + 6)).toInt ∧ (m (34 + 11 * l + 6)).toInt ≤ 1200000) (k8 : 0 ≤ (m (34 + 11 * l + 7)).toInt ∧ (m (34 + 11 * l + 7)).toInt ≤ 99999) : ∃ τ, dc_X10_month (nI l) σ = some τ ∧ RMid τ Z (monL m (34 + 11 * l)) o ∧ SameC σ τ := by
  have z0 : (0 : Int32).toInt = 0 := rfl
  have es : (m (34 + 11 * l + 6) + m (34 + 11 * l + 7)).toInt = (m (34 + 11 * l + 6)).toInt + (m (34 + 11 * l + 7)).toInt := tadd (by omega) (by omega)
  -- behind the switch
  have part2 : ∀ (σ2 : Sto) (m2 : Mt), RMid σ2 Z m2 o → (∀ w, w < 9 → m2 (34 + 11 * l + w) = m (34 + 11 * l + w)) → ∃ τ, (bd (dc_X10_of (nI l) (6 : Int32) σ2) fun r5 σ6 => (bd (dc_X10_of (nI l) (7 : Int32) σ6) fun r7 σ8 => jn (fun (v9 : Int32) (σ10 : Sto) => (bv (dc_X10_be (nI l) (8 : Int32) v9 σ10) fun σ13 => (bd (dc_X10_of (nI l) (6 : Int32) σ13) fun r14 σ15 => (bd (dc_X10_of (nI l) (4 : Int32) σ15) fun r16 σ17 => (bd (dc_X10_of (nI l) (1 : Int32) σ17) fun r18 σ19 => (bv (dc_X10_be (nI l) (6 : Int32) (r14 + ((r16 * r18) / (1000 : Int32))) σ19) fun σ21 => (bd (dc_X10_of (nI l) (7 : Int32) σ21) fun r22 σ23 => (bd (dc_X10_of (nI l) (5 : Int32) σ23) fun r24 σ25 => (bd (dc_X10_of (nI l) (4 : Int32) σ25) fun r26 σ27 => (if r26 ≤ (r22 + r24) then (bd (dc_X10_of (nI l) (4 : Int32) σ27) fun r28 σ29 => (bv (dc_X10_be (nI l) (7 : Int32) r28 σ29) fun σ31 => some σ31)) else (bv (dc_X10_be (nI l) (7 : Int32) (r22 + r24) σ27) fun σ33 => some σ33))))))))))) (fun k11 => (if (r5 + r7) ≤ 0 then k11 (0 : Int32) σ8 else (bd (dc_X10_of (nI l) (8 : Int32) σ8) fun r34 σ35 => k11 (r34 + (1 : Int32)) σ35))))) = some τ ∧ RMid τ Z (upd (upd (upd m2 (34 + 11 * l + 8) (mArr m (34 + 11 * l))) (34 + 11 * l + 6) (mInt m (34 + 11 * l))) (34 + 11 * l + 7) (mDue m (34 + 11 * l))) o ∧ SameC σ2 τ := by
    intro σ2 m2 h2 hw
    have w0 := hw 0 (by decide)
    have w1 := hw 1 (by decide)
    have w4 := hw 4 (by decide)
    have w5 := hw 5 (by decide)
    have w6 := hw 6 (by decide)
    have w7 := hw 7 (by decide)
    have w8 := hw 8 (by decide)
    have r1 := RMid_now (k := 34 + 11 * l + 8) (v := mArr m (34 + 11 * l)) h2
    have r2 := RMid_now (k := 34 + 11 * l + 6) (v := mInt m (34 + 11 * l)) r1
    have r3 := RMid_now (k := 34 + 11 * l + 7) (v := mDue m (34 + 11 * l)) r2
    have ea : ∀ (k : Int32 → Sto → Option Sto), jn k (fun k11 => if (m (34 + 11 * l + 6) + m (34 + 11 * l + 7)) ≤ 0 then k11 (0 : Int32) σ2 else k11 (m (34 + 11 * l + 8) + 1) σ2) = k (mArr m (34 + 11 * l)) σ2 := by
      intro k
      unfold mArr
      simp only [jn]
      by_cases c : (m (34 + 11 * l + 6) + m (34 + 11 * l + 7)) ≤ 0
      · have c' := (tle _ _).mp c
        rw [es, z0] at c'
        rw [if_pos c, if_neg (by rw [tlt, z0]; omega), if_pos (by rw [tle, z0]; omega)]
      · rw [if_neg c]
        rw [tle, es, z0] at c
        by_cases c2 : 0 < m (34 + 11 * l + 6)
        · rw [if_pos c2]
        · rw [if_neg c2, if_neg (by rw [tle, z0]; rw [tlt, z0] at c2; omega)]
    rw [of_6 h2.1 hl, bd_s, of_7 h2.1 hl, bd_s]
    simp only [of_8 h2.1 hl, bd_s, w6, w7, w8]
    rw [ea]
    rw [be_8 hl, bv_s, of_6 r1.1 hl, bd_s, of_4 r1.1 hl, bd_s, of_1 r1.1 hl, bd_s, upd_ne (by omega), upd_ne (by omega), upd_ne (by omega), w6, w4, w1]
    rw [show m (34 + 11 * l + 6) + m (34 + 11 * l + 4) * m (34 + 11 * l + 1) / 1000 = mInt m (34 + 11 * l) from rfl, be_6 hl, bv_s, of_7 r2.1 hl, bd_s, of_5 r2.1 hl, bd_s, of_4 r2.1 hl, bd_s, of_4 r2.1 hl, bd_s, upd_ne (by omega), upd_ne (by omega), upd_ne (by omega), upd_ne (by omega), upd_ne (by omega), upd_ne (by omega), w7, w5, w4]
    refine ⟨up (up (up σ2 304 0 (34 + 11 * l + 8) (mArr m (34 + 11 * l))) 304 0 (34 + 11 * l + 6) (mInt m (34 + 11 * l))) 304 0 (34 + 11 * l + 7) (mDue m (34 + 11 * l)), ?_, r3, SameC.trans (SameC_up (f := 304) rfl) (SameC.trans (SameC_up (f := 304) rfl) (SameC_up (f := 304) rfl))⟩
    unfold mDue jmin
    by_cases c : m (34 + 11 * l + 4) ≤ m (34 + 11 * l + 7) + m (34 + 11 * l + 5)
    · rw [if_pos c, be_7 hl, bv_s, if_neg (by rw [tlt]; rw [tle] at c; omega)]
    · rw [if_neg c, be_7 hl, bv_s, if_pos (by rw [tlt]; rw [tle] at c; omega)]
  unfold dc_X10_month
  rw [of_10 h.1 hl, bd_s]
  show ∃ τ, (jn _ _ : Option Sto) = some τ ∧ _
  unfold jn
  by_cases e : m (34 + 11 * l + 10) = -5
  · have e2 : monL m (34 + 11 * l) = upd (upd (upd m (34 + 11 * l + 8) (mArr m (34 + 11 * l))) (34 + 11 * l + 6) (mInt m (34 + 11 * l))) (34 + 11 * l + 7) (mDue m (34 + 11 * l)) := by
      unfold monL mSrv
      rw [if_pos e, upd_self, upd_same e]
    rw [e2]
    show ∃ τ, (if m (34 + 11 * l + 10) = -5 then _ else _) = some τ ∧ _
    rw [if_pos e]
    exact part2 σ m h (fun _ _ => rfl)
  · have e2 : monL m (34 + 11 * l) = upd (upd (upd (upd (upd m (34 + 11 * l + 9) (m (34 + 11 * l + 10))) (34 + 11 * l + 10) (-5)) (34 + 11 * l + 8) (mArr m (34 + 11 * l))) (34 + 11 * l + 6) (mInt m (34 + 11 * l))) (34 + 11 * l + 7) (mDue m (34 + 11 * l)) := by
      unfold monL mSrv
      rw [if_neg e]
    rw [e2]
    show ∃ τ, (if m (34 + 11 * l + 10) = -5 then _ else _) = some τ ∧ _
    rw [if_neg e, of_10 h.1 hl, bd_s, be_9 hl, bv_s, be_10 hl, bv_s]
    obtain ⟨τ, t1, t2, t3⟩ := part2 _ _ (RMid_now (k := 34 + 11 * l + 10) (v := -5) (RMid_now (k := 34 + 11 * l + 9) (v := m (34 + 11 * l + 10)) h)) (fun w hw => by rw [upd_ne (by omega), upd_ne (by omega)])
    exact ⟨τ, t1, t2, SameC.trans (SameC.trans (SameC_up (f := 304) rfl) (SameC_up (f := 304) rfl)) t3⟩
