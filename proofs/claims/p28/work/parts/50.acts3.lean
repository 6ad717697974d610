/-! acts: a loan opened, a note sold -/
theorem Mod.congr {σ : Sto} {m m' : Mt} (h : Mod σ m) (he : ∀ k, k < 564 → m k = m' k) : Mod σ m' := fun k hk => (h k hk).trans (he k hk)
theorem RMid.congr {σ : Sto} {Z : Zt} {m m' : Mt} {o : Int32} (h : RMid σ Z m o) (he : ∀ k, k < 564 → m k = m' k) : RMid σ Z m' o := ⟨h.1.congr he, h.2⟩
theorem si_zero {f : Nat → Int} : ∀ {n : Nat}, (∀ k, k < n → f k = 0) → si f n = 0
  | 0, _ => rfl
  | n + 1, h => by
    show si f n + f n = 0
    rw [si_zero fun k hk => h k (by omega), h n (by omega)]
    rfl
/-- a new loan -/
def opn (m : Mt) (a r t : Int32) : Mt := fun k =>
  let p := 34 + 11 * nb m
  if k = p then a else if k = p + 1 then r else if k = p + 2 then t else if k = p + 5 ∨ k = p + 10 then -5 else if p ≤ k ∧ k < p + 11 then 0 else if k = 2 then m 2 + 1 else m k
theorem opn_out {m : Mt} {a r t : Int32} {k : Nat} (h1 : ¬ (34 + 11 * nb m ≤ k ∧ k < 45 + 11 * nb m)) (h2 : k ≠ 2) : opn m a r t k = m k := by
  show (if k = 34 + 11 * nb m then a else _) = _
  rw [if_neg (by omega), if_neg (by omega), if_neg (by omega), if_neg (by omega), if_neg (by omega), if_neg h2]
theorem InvM_opn {K : Int} {m : Mt} {a r t : Int32} (h : InvM K m) (h10 : nb m < 10) (ha : 100 ≤ a.toInt ∧ a.toInt ≤ 99999) (hr : 0 ≤ r.toInt ∧ r.toInt ≤ 50) (ht : 1 ≤ t.toInt ∧ t.toInt ≤ 36) : InvM K (opn m a r t) := by
  obtain ⟨i1, i2, i3, i4, i5, i6, i7, i8, i9⟩ := h
  have e0 : opn m a r t 0 = m 0 := opn_out (by omega) (by omega)
  have e1 : opn m a r t 1 = m 1 := opn_out (by omega) (by omega)
  have e3 : opn m a r t 3 = m 3 := opn_out (by omega) (by omega)
  have e4 : opn m a r t 4 = m 4 := opn_out (by omega) (by omega)
  have e5 : opn m a r t 5 = m 5 := opn_out (by omega) (by omega)
  have e2 : opn m a r t 2 = m 2 + 1 := by
    show (if 2 = 34 + 11 * nb m then a else _) = _
    rw [if_neg (by omega), if_neg (by omega), if_neg (by omega), if_neg (by omega), if_neg (by omega), if_pos rfl]
  have b2 := i1.b
  have t2 : (m 2 + 1).toInt = (m 2).toInt + 1 := by
    rw [tadd] <;> rw [show (1 : Int32).toInt = 1 from rfl] <;> (have := i1.2.1; omega)
  have c2 : (m 2).toInt = nb m := (clI i1.2.1.1).symm
  have nb' : nb (opn m a r t) = nb m + 1 := by
    unfold nb
    rw [e2, tcl, t2]
    show _ = (m 2).toNatClampNeg + 1
    rw [tcl]
    have := i1.2.1.1
    omega
  have hhi : ∀ k, 144 ≤ k → opn m a r t k = m k := fun k hk => opn_out (by omega) (by omega)
  have q0 : opn m a r t (34 + 11 * nb m) = a := if_pos rfl
  have q1 : opn m a r t (34 + 11 * nb m + 1) = r := by
    show (if _ = 34 + 11 * nb m then a else _) = _
    rw [if_neg (by omega), if_pos rfl]
  have q2 : opn m a r t (34 + 11 * nb m + 2) = t := by
    show (if _ = 34 + 11 * nb m then a else _) = _
    rw [if_neg (by omega), if_neg (by omega), if_pos rfl]
  have q10 : opn m a r t (34 + 11 * nb m + 10) = -5 := by
    show (if _ = 34 + 11 * nb m then a else _) = _
    rw [if_neg (by omega), if_neg (by omega), if_neg (by omega), if_pos (by omega)]
  have qz : ∀ w, (w = 3 ∨ w = 4 ∨ w = 6 ∨ w = 7 ∨ w = 8 ∨ w = 9) → opn m a r t (34 + 11 * nb m + w) = 0 := fun w hw => by
    show (if _ = 34 + 11 * nb m then a else _) = _
    rw [if_neg (by omega), if_neg (by omega), if_neg (by omega), if_neg (by omega), if_pos (by omega)]
  have z0 : (0 : Int32).toInt = 0 := rfl
  refine ⟨⟨by rw [e1]; exact i1.1, by rw [e2, t2]; have := i1.2.1; omega, by rw [e3]; exact i1.2.2⟩, by rw [e0]; exact i2, by rw [e5]; exact i3, by rw [e4]; exact i4, fun i hi => by rw [opn_out (by omega) (by omega)]; exact i5 i hi, fun l hl => ?_, fun n hn' => ?_, fun l hl => ?_, fun i h1 h2 => ?_⟩
  · rw [nb'] at hl
    by_cases e : l = nb m
    · subst e
      unfold LoK
      rw [e0, q0, q1, q2, q10, qz 3 (by omega), qz 4 (by omega), qz 6 (by omega), qz 7 (by omega), qz 8 (by omega), qz 9 (by omega)]
      exact ⟨ha, hr, ht, by decide, by decide, fun z => absurd z (by decide), ⟨by decide, by rw [z0]; have := i2.1; omega⟩, by decide, ⟨by decide, i2.1⟩, by decide, Or.inl rfl, fun _ => ⟨rfl, rfl, rfl, rfl, rfl⟩⟩
    · have q := i6 l (by omega)
      unfold LoK at q ⊢
      rw [e0, opn_out (k := 34 + 11 * l) (by omega) (by omega), opn_out (k := 34 + 11 * l + 1) (by omega) (by omega), opn_out (k := 34 + 11 * l + 2) (by omega) (by omega), opn_out (k := 34 + 11 * l + 3) (by omega) (by omega), opn_out (k := 34 + 11 * l + 4) (by omega) (by omega), opn_out (k := 34 + 11 * l + 5) (by omega) (by omega), opn_out (k := 34 + 11 * l + 6) (by omega) (by omega), opn_out (k := 34 + 11 * l + 7) (by omega) (by omega), opn_out (k := 34 + 11 * l + 8) (by omega) (by omega), opn_out (k := 34 + 11 * l + 9) (by omega) (by omega), opn_out (k := 34 + 11 * l + 10) (by omega) (by omega)]
      exact q
  · have hn2 : n < nc m := by unfold nc at hn'; rw [e3] at hn'; exact hn'
    obtain ⟨u1, u2, u3, u4, u5⟩ := i7 n hn2
    have ul : (m (144 + 7 * n + 1)).toNatClampNeg < nb m := by
      have := clI u2.1
      have := u2.2
      omega
    unfold NoK isI isL
    rw [e1, e2, t2, hhi (144 + 7 * n) (by omega), hhi (144 + 7 * n + 1) (by omega), hhi (144 + 7 * n + 2) (by omega), hhi (144 + 7 * n + 3) (by omega), hhi (144 + 7 * n + 6) (by omega), opn_out (k := 34 + 11 * (m (144 + 7 * n + 1)).toNatClampNeg + 3) (by omega) (by omega)]
    exact ⟨u1, ⟨u2.1, by have := u2.2; omega⟩, u3, u4, u5⟩
  · rw [nb'] at hl
    by_cases e : l = nb m
    · subst e
      unfold SmK
      rw [q0, qz 3 (by omega), qz 4 (by omega), siN_out e3 hhi]
      refine ⟨fun z => absurd z (by decide), fun _ => ?_⟩
      rw [show siN m (nI (nb m)) = 0 from si_zero fun n hn => if_neg fun z => ?_]
      · omega
      · have := (i7 n hn).2.1.2
        rw [z, nI_toInt (by omega)] at this
        omega
    · have q := i8 l (by omega)
      unfold SmK at q ⊢
      rw [siN_out e3 hhi, opn_out (k := 34 + 11 * l) (by omega) (by omega), opn_out (k := 34 + 11 * l + 3) (by omega) (by omega), opn_out (k := 34 + 11 * l + 4) (by omega) (by omega)]
      exact q
  · rw [opn_out (by omega) (by omega), opn_out (by omega) (by omega)]
    exact i9 i (by unfold na at h1 ⊢; rw [e1] at h1; exact h1) h2
theorem q_openLoan {K : Int} {Z : Zt} (hI : InvZ K Z) (a r t : Int32) : Pair K Z (dc_X9_openLoan a r t) (dc_X10_openLoan a r t) := by
  have hc := hI.1.1
  obtain ⟨eb, hb10⟩ := hc.b
  have z100 : (100 : Int32).toInt = 100 := rfl
  have z9 : (99999 : Int32).toInt = 99999 := rfl
  have z0 : (0 : Int32).toInt = 0 := rfl
  have z50 : (50 : Int32).toInt = 50 := rfl
  have z1 : (1 : Int32).toInt = 1 := rfl
  have z36 : (36 : Int32).toInt = 36 := rfl
  by_cases ha : (100 : Int32).toInt ≤ a.toInt ∧ a.toInt ≤ (99999 : Int32).toInt
  · by_cases hr1 : (0 : Int32).toInt ≤ r.toInt ∧ r.toInt ≤ (50 : Int32).toInt
    · by_cases ht : (1 : Int32).toInt ≤ t.toInt ∧ t.toInt ≤ (36 : Int32).toInt
      · by_cases h10 : nb Z.1 = 10
        · refine Pair.no hI (-3) (fun σ hr => ?_) (fun σ hr => ?_)
          · unfold dc_X9_openLoan
            rw [if_neg (by rw [tlt]; omega), if_neg (by rw [tlt]; omega), if_neg (by rw [tlt]; omega), if_neg (by rw [tlt]; omega), isLM_eq, bd_s, rng, if_pos ht, if_neg (by decide), hr.1.1.2.2.1, eb, h10, if_neg (by decide)]
          · obtain ⟨σ1, p1, p2, p3⟩ := aside_eq hr
            unfold dc_X10_openLoan
            rw [p1, bv_s, in_eq, bd_s, rng, if_pos ha, if_neg (by decide), in_eq, bd_s, rng, if_pos hr1, if_neg (by decide), in_eq, bd_s, rng, if_pos ht, if_neg (by decide), if_pos ib_2, cl_2, p2.1 2 (by decide), eb, h10, if_pos (by decide)]
            exact ⟨σ1, rfl, p2.out, p3⟩
        · refine Pair.act hI (Z.1 2) (opn Z.1 a r t) (InvM_opn hI.1 (by omega) (by omega) (by omega) (by omega)) (fun σ hr => ?_) (fun σ hr => ?_)
          · obtain ⟨σ1, p1, p2, p3⟩ := record_eq hr
            have q1 : σ1.1 85 0 0 = nI (nb Z.1) := p2.1.1.2.2.1.trans eb
            refine ⟨σ1, up (up (up (up (up (up (up (up (up (up (up (up σ1 64 0 (nb Z.1) 0) 65 0 (nb Z.1) a) 66 0 (nb Z.1) r) 67 0 (nb Z.1) t) 68 0 (nb Z.1) 0) 69 0 (nb Z.1) (-5)) 70 0 (nb Z.1) 0) 71 0 (nb Z.1) 0) 72 0 (nb Z.1) 0) 73 0 (nb Z.1) 0) 74 0 (nb Z.1) (-5)) 85 0 0 (Z.1 2 + 1), p3, p2, ?_, FrJ_up rfl (FrJ_up rfl (FrJ_up rfl (FrJ_up rfl (FrJ_up rfl (FrJ_up rfl (FrJ_up rfl (FrJ_up rfl (FrJ_up rfl (FrJ_up rfl (FrJ_up rfl (FrJ_up rfl (FrJ.refl 0 σ1)))))))))))), ?_⟩
            · unfold dc_X9_openLoan dc_X4_open
              simp only [lt]
              rw [if_neg (by rw [tlt]; omega), if_neg (by rw [tlt]; omega), if_neg (by rw [tlt]; omega), if_neg (by rw [tlt]; omega), isLM_eq, bd_s, rng, if_pos ht, if_neg (by decide), hr.1.1.2.2.1, eb, if_pos (by rw [show (10 : Int32) = nI 10 from rfl, nI_ltI (by omega) (by omega)]; omega), p1, bv_s, q1, if_pos (inb_nI (show nb Z.1 < 10 by omega) (by decide)), nI_clamp (by omega), bv_s]
              simp (disch := decide) only [up_ne]
              rw [q1]
            · have c4 := Cla_up85 (v := Z.1 2 + 1) (Cla_up74 (v := -5) (l0 := nb Z.1) (by omega) (Cla_up73 (v := 0) (l0 := nb Z.1) (by omega) (Cla_up72 (v := 0) (l0 := nb Z.1) (by omega) (Cla_up71 (v := 0) (l0 := nb Z.1) (by omega) (Cla_up70 (v := 0) (l0 := nb Z.1) (by omega) (Cla_up69 (v := -5) (l0 := nb Z.1) (by omega) (Cla_up68 (v := 0) (l0 := nb Z.1) (by omega) (Cla_up67 (v := t) (l0 := nb Z.1) (by omega) (Cla_up66 (v := r) (l0 := nb Z.1) (by omega) (Cla_up65 (v := a) (l0 := nb Z.1) (by omega) (Cla_up64 (v := 0) (l0 := nb Z.1) (by omega) p2.1)))))))))))
              have e : (upd (upd (upd (upd (upd (upd (upd (upd (upd (upd (upd (upd (recZ Z).1 (34 + 11 * nb Z.1 + 3) 0) (34 + 11 * nb Z.1) a) (34 + 11 * nb Z.1 + 1) r) (34 + 11 * nb Z.1 + 2) t) (34 + 11 * nb Z.1 + 4) 0) (34 + 11 * nb Z.1 + 5) (-5)) (34 + 11 * nb Z.1 + 6) 0) (34 + 11 * nb Z.1 + 7) 0) (34 + 11 * nb Z.1 + 8) 0) (34 + 11 * nb Z.1 + 9) 0) (34 + 11 * nb Z.1 + 10) (-5)) 2 (Z.1 2 + 1)) = opn Z.1 a r t := by
                funext k
                simp only [upd, opn, recZ]
                by_cases k2 : k = 2
                · subst k2
                  simp (disch := omega) only [if_pos, if_neg]
                · by_cases kin : 34 + 11 * nb Z.1 ≤ k ∧ k < 45 + 11 * nb Z.1
                  · obtain ⟨w, hw, rfl⟩ : ∃ w, w < 11 ∧ k = 34 + 11 * nb Z.1 + w := ⟨k - (34 + 11 * nb Z.1), by omega, by omega⟩
                    rcases (show w = 0 ∨ w = 1 ∨ w = 2 ∨ w = 3 ∨ w = 4 ∨ w = 5 ∨ w = 6 ∨ w = 7 ∨ w = 8 ∨ w = 9 ∨ w = 10 by omega) with rfl | rfl | rfl | rfl | rfl | rfl | rfl | rfl | rfl | rfl | rfl <;> simp (disch := omega) only [if_pos, if_neg, if_true, true_or, or_true]
                  · simp (disch := omega) only [if_neg]
              rw [← e]
              exact c4
          · obtain ⟨σ1, p1, p2, p3⟩ := aside_eq hr
            unfold dc_X10_openLoan
            have u2 : σ1.1 304 0 2 = nI (nb Z.1) := (p2.1 2 (by decide)).trans eb
            rw [p1, bv_s, in_eq, bd_s, rng, if_pos ha, if_neg (by decide), in_eq, bd_s, rng, if_pos hr1, if_neg (by decide), in_eq, bd_s, rng, if_pos ht, if_neg (by decide), if_pos ib_2, cl_2, u2, if_neg (by rw [show (10 : Int32) = nI 10 from rfl, nI_eq (by omega) (by omega)]; exact h10), if_pos ib_2]
            refine wh1_inv (T := fun o => ∃ τ, o = some (Z.1 2, τ) ∧ RMo τ (pushZ Z (opn Z.1 a r t)) ∧ SameC σ τ) (fun i τ => RMid τ Z (fun k => if 34 + 11 * nb Z.1 ≤ k ∧ k < 34 + 11 * nb Z.1 + i then 0 else Z.1 k) 0 ∧ SameC σ τ) 11 (by decide) (fun i τ hi hP => ?_) (fun τ hP rec => ?_) ⟨p2.congr fun k hk => (if_neg (by omega)).symm, p3⟩
            · obtain ⟨hP1, hP2⟩ := hP
              refine ⟨up τ 304 0 (34 + 11 * nb Z.1 + i) 0, ⟨(RMid_now (k := 34 + 11 * nb Z.1 + i) (v := 0) hP1).congr fun k hk => ?_, hP2.trans (SameC_up rfl)⟩, fun rec => ?_⟩
              · by_cases e : k = 34 + 11 * nb Z.1 + i
                · rw [e, upd_eq, if_pos (by omega)]
                · rw [upd_ne e]
                  by_cases e2 : 34 + 11 * nb Z.1 ≤ k ∧ k < 34 + 11 * nb Z.1 + i
                  · rw [if_pos e2, if_pos (by omega)]
                  · rw [if_neg e2, if_neg (by omega)]
              · rw [if_neg (by rw [show (11 : Int32) = nI 11 from rfl, nI_leI (by omega) (by omega)]; omega), be_nI (by omega) hi, bv_s, nI_1]
            · obtain ⟨hP1, hP2⟩ := hP
              have r5 := RMid_now (k := 34 + 11 * nb Z.1 + 10) (v := -5) (RMid_now (k := 34 + 11 * nb Z.1 + 5) (v := -5) (RMid_now (k := 34 + 11 * nb Z.1 + 2) (v := t) (RMid_now (k := 34 + 11 * nb Z.1 + 1) (v := r) (RMid_now (k := 34 + 11 * nb Z.1) (v := a) hP1))))
              have r6 := RMid_now (k := 2) (v := nI (nb Z.1) + 1) r5
              have r7 : RMid _ Z (opn Z.1 a r t) 0 := r6.congr fun k hk => by
                simp only [upd, opn]
                rw [← eb]
                by_cases k2 : k = 2
                · subst k2
                  simp (disch := omega) only [if_pos, if_neg]
                · by_cases kin : 34 + 11 * nb Z.1 ≤ k ∧ k < 45 + 11 * nb Z.1
                  · obtain ⟨w, hw, rfl⟩ : ∃ w, w < 11 ∧ k = 34 + 11 * nb Z.1 + w := ⟨k - (34 + 11 * nb Z.1), by omega, by omega⟩
                    rcases (show w = 0 ∨ w = 1 ∨ w = 2 ∨ w = 3 ∨ w = 4 ∨ w = 5 ∨ w = 6 ∨ w = 7 ∨ w = 8 ∨ w = 9 ∨ w = 10 by omega) with rfl | rfl | rfl | rfl | rfl | rfl | rfl | rfl | rfl | rfl | rfl <;> simp (disch := omega) only [if_pos, if_neg, if_true, true_or, or_true]
                  · simp (disch := omega) only [if_neg]
              obtain ⟨υ, v1, v2, v3⟩ := acted_eq (nI (nb Z.1)) r7
              rw [if_pos (by decide), be_0 (by omega), bv_s, be_1 (by omega), bv_s, be_2 (by omega), bv_s, be_5 (by omega), bv_s, be_10 (by omega), bv_s, if_pos ib_2, if_pos ib_2, Nat.add_zero]
              simp (disch := omega) only [up_nl]
              have u3 : τ.1 304 0 2 = nI (nb Z.1) := (hP1.1 2 (by decide)).trans ((if_neg (by omega)).trans eb)
              rw [u3, v1, bd_s, ← eb]
              refine ⟨υ, rfl, v2, hP2.trans (SameC.trans ?_ v3)⟩
              exact SameC.trans (SameC_up (f := 304) rfl) (SameC.trans (SameC_up (f := 304) rfl) (SameC.trans (SameC_up (f := 304) rfl) (SameC.trans (SameC_up (f := 304) rfl) (SameC.trans (SameC_up (f := 304) rfl) (SameC_up (f := 304) rfl)))))
      · refine Pair.no hI (-2) (fun σ hr => ?_) (fun σ hr => ?_)
        · unfold dc_X9_openLoan
          rw [if_neg (by rw [tlt]; omega), if_neg (by rw [tlt]; omega), if_neg (by rw [tlt]; omega), if_neg (by rw [tlt]; omega), isLM_eq, bd_s, rng, if_neg ht, if_pos rfl]
        · obtain ⟨σ1, p1, p2, p3⟩ := aside_eq hr
          unfold dc_X10_openLoan
          rw [p1, bv_s, in_eq, bd_s, rng, if_pos ha, if_neg (by decide), in_eq, bd_s, rng, if_pos hr1, if_neg (by decide), in_eq, bd_s, rng, if_neg ht, if_pos rfl]
          exact ⟨σ1, rfl, p2.out, p3⟩
    · refine Pair.no hI (-2) (fun σ hr => ?_) (fun σ hr => ?_)
      · unfold dc_X9_openLoan
        rw [if_neg (by rw [tlt]; omega), if_neg (by rw [tlt]; omega)]
        by_cases c : r < 0
        · rw [if_pos c]
        · rw [if_neg c, if_pos (by rw [tlt]; rw [tlt] at c; omega)]
      · obtain ⟨σ1, p1, p2, p3⟩ := aside_eq hr
        unfold dc_X10_openLoan
        rw [p1, bv_s, in_eq, bd_s, rng, if_pos ha, if_neg (by decide), in_eq, bd_s, rng, if_neg hr1, if_pos rfl]
        exact ⟨σ1, rfl, p2.out, p3⟩
  · refine Pair.no hI (-2) (fun σ hr => ?_) (fun σ hr => ?_)
    · unfold dc_X9_openLoan
      by_cases c : a < 100
      · rw [if_pos c]
      · rw [if_neg c, if_pos (by rw [tlt]; rw [tlt] at c; omega)]
    · obtain ⟨σ1, p1, p2, p3⟩ := aside_eq hr
      unfold dc_X10_openLoan
      rw [p1, bv_s, in_eq, bd_s, rng, if_neg ha, if_pos rfl]
      exact ⟨σ1, rfl, p2.out, p3⟩
