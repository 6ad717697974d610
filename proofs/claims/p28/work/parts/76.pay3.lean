/-! pay: the same answer -/
theorem Prt.fr {σ τ : Sto} {m : Mt} {l : Nat} {c : Int32} (h : ∀ f, 112 ≤ f → f ≤ 117 → τ.1 f = σ.1 f) (hp : Prt σ m l c) : Prt τ m l c := by
  unfold Prt
  rw [h 112 (by decide) (by decide), h 113 (by decide) (by decide), h 114 (by decide) (by decide), h 115 (by decide) (by decide), h 116 (by decide) (by decide), h 117 (by decide) (by decide)]
  exact hp
theorem isM_p {f : Nat} (h1 : 112 ≤ f) (h2 : f ≤ 117) : isM f = false := by
  unfold isM
  simp only [Bool.or_eq_false_iff, Bool.and_eq_false_iff, decide_eq_false_iff_not]
  omega
theorem q_pay {K : Int} {Z : Zt} (hI : InvZ K Z) (hK : K ≤ 2000000000) (a c : Int32) : Pair (K + 200000) Z (dc_X9_pay a c) (dc_X10_pay a c) := by
  have hI' : InvZ (K + 200000) Z := hI.mono (by omega)
  have hc := hI.1.1
  have z1 : (1 : Int32).toInt = 1 := rfl
  have z9 : (199999 : Int32).toInt = 199999 := rfl
  by_cases h : isL Z.1 a
  · obtain ⟨l, hl, rfl⟩ := isL_of hc h
    have hb := hc.b.2
    by_cases hp : (1 : Int32).toInt ≤ c.toInt ∧ c.toInt ≤ (199999 : Int32).toInt
    · have hcb : 0 ≤ c.toInt ∧ c.toInt ≤ 199999 := by omega
      by_cases ho : pOk Z.1 l c
      · have q := pn hI.1 hl hcb ho
        have hg : ∀ n, n < nc Z.1 → 0 ≤ (gi Z.1 l c n + gp Z.1 l c n).toInt ∧ (gi Z.1 l c n + gp Z.1 l c n).toInt ≤ 2000000 := fun n hn' => by
          obtain ⟨u1, u2, u3, u4, -⟩ := g_b hI.1 q (n := n) (by have := hc.c.2; omega)
          omega
        have pc : ∀ σ, RCl σ Z → ∃ (σ0 : Sto) (r : Int32), (RCl σ0 Z ∧ SameM σ σ0 ∧ Prt σ0 Z.1 l c) ∧ PA σ0 (gi Z.1 l c) (gp Z.1 l c) (wt Z.1 (nI l) 1) ∧ ((r = 1 ∧ Fit Z.1 (fun n => gi Z.1 l c n + gp Z.1 l c n)) ∨ (r = 0 ∧ ¬ Fit Z.1 (fun n => gi Z.1 l c n + gp Z.1 l c n))) ∧ dc_X9_pay (nI l) c σ = (if r = 0 then some ((-3 : Int32), σ0) else (bv (dc_X2_record 0 σ0) fun σ12 => (bv (dc_X8_carryOut 0 σ12) fun σ14 => (bv (dc_X5_takePayment 0 (nI l) σ14) fun σ16 => some (σ16.1 68 0 l, σ16))))) := fun σ hr => by
          obtain ⟨σ1, a1, a2, a3⟩ := areOf_eq hI.1 hr.1 hl c
          have r1 := a2.rcl hr
          obtain ⟨σ2, b1, b2, b3⟩ := ofPay_c hI.1 r1.1 (a3 ho) q
          have r2 := b2.rcl r1
          obtain ⟨r, c1, c2⟩ := fits_c r2.1 hc b3 hg
          refine ⟨σ2, r, ⟨r2, a2.sameM.trans b2.sameM, (a3 ho).fr fun f h1 h2 => b2.1 f (by omega)⟩, b3, c2, ?_⟩
          unfold dc_X9_pay
          rw [hasL_eq hr.1, bd_s, if_pos h, if_neg (by decide), isPm_eq, bd_s, rng, if_pos hp, if_neg (by decide), a1, bd_s, if_pos ho, if_neg (by decide), b1, bv_s, c1, bd_s]
          simp only [if_pos (inb_nI (show l < 10 by omega) (show (10 : Nat) < 2 ^ 31 by decide)), nI_clamp (show l < 2 ^ 31 by omega)]
        have pm : ∀ σ, RMo σ Z → ∃ σ1 τ C, RS τ Z (pyM Z.1 l c) C ∧ (∀ i, i < 8 → C i = (Z.1 (10 + 3 * i)).toInt + CI Z.1 (fun n => gi Z.1 l c n + gp Z.1 l c n) i (nc Z.1)) ∧ SameC σ σ1 ∧ SameC σ1 τ ∧ dc_X10_pay (nI l) c σ = (bd (dc_X10_acted (Z.1 (34 + 11 * l + 4) - pPri Z.1 l c) τ) fun r58 σ59 => some (r58, σ59)) := fun σ hr => by
          obtain ⟨σ1, p1, p2, p3⟩ := aside_eq hr
          obtain ⟨τ, C, t1, t2, t3, t4⟩ := pay_m hI.1 hl hcb q p2
          refine ⟨σ1, τ, C, t1, t2, p3, t3, ?_⟩
          unfold dc_X10_pay
          rw [p1, bv_s, isL_eq p2.1 hc, bd_s, if_pos h, if_neg (by decide), in_eq, bd_s, rng, if_pos hp, if_neg (by decide), canPay_eq hI.1 p2.1 hl hcb, bd_s, if_pos ho, if_neg (by decide)]
          exact t4
        have sv := svc_eq hI.1 hl
        by_cases hf : Fit Z.1 (fun n => gi Z.1 l c n + gp Z.1 l c n)
        · refine Pair.act2 (K := K) hI' (Z.1 (34 + 11 * l + 4) - pPri Z.1 l c) (pyM Z.1 l c) (InvM_py hI.1 hK hl ho.1 q hf) (fun σ hr => ?_) (fun σ hr => ?_)
          · obtain ⟨σ0, r, ⟨a1, a2, a3⟩, a4, a5, a6⟩ := pc σ hr
            rcases a5 with ⟨rfl, -⟩ | ⟨-, nf⟩
            · obtain ⟨σ1, p1, p2, p3⟩ := record_eq a1
              have a4' : PA σ1 (gi Z.1 l c) (gp Z.1 l c) (wt Z.1 (nI l) 1) := fun n hn => by rw [p3 288 rfl (by decide)]; exact a4 n hn
              obtain ⟨σ2, b1, b2, b3⟩ := carry_c p2.1 hc hI.1.hd a4'
              have a3' : Prt σ2 Z.1 l c := a3.fr fun f h1 h2 => by rw [b2.1 f (isM_p h1 h2), p3 f (isM_p h1 h2) (by omega)]
              obtain ⟨σ3, c1, c2, c3⟩ := takeP_c hI.1 hl b3 a3' q
              refine ⟨σ0, σ1, σ3, a2, p3, p2, ?_, b2.trans c2, c3⟩
              have e68 : σ3.1 68 0 l = Z.1 (34 + 11 * l + 4) - pPri Z.1 l c := by
                rw [(c3.2.2.1 l (by omega)).2.2.2.2.1]
                unfold pyM
                rw [tkM_4, pyB_l sv.2 (by omega) (by omega)]
              rw [a6, if_neg (by decide), p1, bv_s, b1, bv_s, c1, bv_s, e68]
            · exact absurd hf nf
          · obtain ⟨σ1, τ, C, t1, t2, t3, t4, t5⟩ := pm σ hr
            obtain ⟨υ, u1, u2, u3⟩ := (t1.fin hc hI.1.hd t2 (Z.1 (34 + 11 * l + 4) - pPri Z.1 l c)).1 hf
            rw [t5, u1, bd_s]
            exact ⟨υ, rfl, u2, t3.trans (t4.trans u3)⟩
        · refine ⟨-3, Z, hI', fun σ hr => ?_, fun σ hr => ?_⟩
          · obtain ⟨σ0, r, ⟨a1, a2, a3⟩, a4, a5, a6⟩ := pc σ hr
            rcases a5 with ⟨-, z⟩ | ⟨rfl, -⟩
            · exact absurd z hf
            · rw [a6, if_pos rfl]
              exact ⟨σ0, rfl, a1, a2⟩
          · obtain ⟨σ1, τ, C, t1, t2, t3, t4, t5⟩ := pm σ hr
            obtain ⟨υ, u1, u2, u3⟩ := (t1.fin hc hI.1.hd t2 (Z.1 (34 + 11 * l + 4) - pPri Z.1 l c)).2 hf
            rw [t5, u1, bd_s]
            exact ⟨υ, rfl, u2, t3.trans (t4.trans u3)⟩
      · refine ⟨-4, Z, hI', fun σ hr => ?_, fun σ hr => ?_⟩
        · obtain ⟨σ1, a1, a2, a3⟩ := areOf_eq hI.1 hr.1 hl c
          refine ⟨σ1, ?_, a2.rcl hr, a2.sameM⟩
          unfold dc_X9_pay
          rw [hasL_eq hr.1, bd_s, if_pos h, if_neg (by decide), isPm_eq, bd_s, rng, if_pos hp, if_neg (by decide), a1, bd_s, if_neg ho, if_pos rfl]
        · obtain ⟨σ1, p1, p2, p3⟩ := aside_eq hr
          unfold dc_X10_pay
          rw [p1, bv_s, isL_eq p2.1 hc, bd_s, if_pos h, if_neg (by decide), in_eq, bd_s, rng, if_pos hp, if_neg (by decide), canPay_eq hI.1 p2.1 hl hcb, bd_s, if_neg ho, if_pos rfl]
          exact ⟨σ1, rfl, p2.out, p3⟩
    · refine Pair.no hI' (-2) (fun σ hr => ?_) (fun σ hr => ?_)
      · unfold dc_X9_pay
        rw [hasL_eq hr.1, bd_s, if_pos h, if_neg (by decide), isPm_eq, bd_s, rng, if_neg hp, if_pos rfl]
      · obtain ⟨σ1, p1, p2, p3⟩ := aside_eq hr
        unfold dc_X10_pay
        rw [p1, bv_s, isL_eq p2.1 hc, bd_s, if_pos h, if_neg (by decide), in_eq, bd_s, rng, if_neg hp, if_pos rfl]
        exact ⟨σ1, rfl, p2.out, p3⟩
  · refine Pair.no hI' (-1) (fun σ hr => ?_) (fun σ hr => ?_)
    · unfold dc_X9_pay
      rw [hasL_eq hr.1, bd_s, if_neg h, if_pos rfl]
    · obtain ⟨σ1, p1, p2, p3⟩ := aside_eq hr
      unfold dc_X10_pay
      rw [p1, bv_s, isL_eq p2.1 hc, bd_s, if_neg h, if_pos rfl]
      exact ⟨σ1, rfl, p2.out, p3⟩
