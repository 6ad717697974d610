/-! sell: the same answer -/
theorem wsm_end {E : Mt} {l j : Nat} {s : Int32} (hl : l < 10) : wsm (endM E l s) l j = wsm E l j := itN_congr fun n x _ _ => by
  rw [endM_out (by omega), endM_out (by omega)]
theorem q_sell {K : Int} {Z : Zt} (hI : InvZ K Z) (hK : K ≤ 2000000000) (a c : Int32) : Pair (K + 200000) Z (dc_X9_sell a c) (dc_X10_sell a c) := by
  have hI' : InvZ (K + 200000) Z := hI.mono (by omega)
  have hc := hI.1.1
  have z0 : (0 : Int32).toInt = 0 := rfl
  have z9 : (99999 : Int32).toInt = 99999 := rfl
  by_cases h : isL Z.1 a
  · obtain ⟨l, hl, rfl⟩ := isL_of hc h
    have hb := hc.b.2
    by_cases hp0 : (0 : Int32).toInt ≤ c.toInt ∧ c.toInt ≤ (99999 : Int32).toInt
    · have hcb : 0 ≤ c.toInt ∧ c.toInt ≤ 99999 := by omega
      by_cases hr1 : Z.1 (34 + 11 * l + 3) = 1
      · by_cases h8 : (3 : Int32) ≤ Z.1 (34 + 11 * l + 8)
        · have hg : ∀ n, n < nc Z.1 → 0 ≤ (nil n + hp Z.1 l c n).toInt ∧ (nil n + hp Z.1 l c n).toInt ≤ 2000000 := fun n hn' => by
            have := (hp_z (l := l) hI.1 hK hcb hn').1
            show 0 ≤ ((0 : Int32) + hp Z.1 l c n).toInt ∧ ((0 : Int32) + hp Z.1 l c n).toInt ≤ 2000000
            rw [Int32.zero_add]
            omega
          have pc : ∀ σ, RCl σ Z → ∃ (σ0 : Sto) (r : Int32), FrW 288 σ σ0 ∧ PA σ0 nil (hp Z.1 l c) (wq Z.1 l c) ∧ ((r = 1 ∧ Fit Z.1 (fun n => nil n + hp Z.1 l c n)) ∨ (r = 0 ∧ ¬ Fit Z.1 (fun n => nil n + hp Z.1 l c n))) ∧ dc_X9_sell (nI l) c σ = (if r = 0 then some ((-3 : Int32), σ0) else (bv (dc_X2_record 0 σ0) fun σ13 => (bv (dc_X8_carryOut 0 σ13) fun σ15 => (bv (dc_X4_end 0 l (3 : Int32) (up σ15 88 0 0 (sQ Z.1 l c - sA2 Z.1 l c))) fun σ18 => (bd (dc_X5_writeOff 0 (nI l) σ18) fun r19 σ20 => some (r19, σ20)))))) := fun σ hr => by
            obtain ⟨σ0, a1, a2, a3⟩ := ofSale_c hI.1 hK hr.1 (l := l) hcb
            obtain ⟨r, b1, b2⟩ := fits_c (a2.cla hr.1) hc a3 hg
            have q := hr.1.2.2.1 l (by omega)
            refine ⟨σ0, r, a2, a3, b2, ?_⟩
            unfold dc_X9_sell
            rw [hasL_eq hr.1, bd_s, if_pos h, if_neg (by decide), isPc_eq, bd_s, rng, if_pos hp0, if_neg (by decide), xruns_eq hr.1 hc hl, bd_s, if_pos hr1, if_neg (by decide), if_pos (inb_nI (show l < 10 by omega) (by decide)), nI_clamp (by omega), q.2.2.2.2.2.2.2.2.1, if_pos h8, a1, bd_s, b1, bd_s]
            simp only [if_pos (inb_nI (show l < 10 by omega) (show (10 : Nat) < 2 ^ 31 by decide))]
          have pm : ∀ σ, RMo σ Z → ∃ σ1 τ C, RS τ Z (sM Z.1 l c) C ∧ (∀ i, i < 8 → C i = (Z.1 (10 + 3 * i)).toInt + CI Z.1 (fun n => nil n + hp Z.1 l c n) i (nc Z.1)) ∧ SameC σ σ1 ∧ SameC σ1 τ ∧ dc_X10_sell (nI l) c σ = (bd (dc_X10_acted (wsm (sB Z.1 l c) l (nc Z.1)) τ) fun r14 σ15 => some (r14, σ15)) := fun σ hr => by
            obtain ⟨σ1, p1, p2, p3⟩ := aside_eq hr
            obtain ⟨τ, C, t1, t2, t3, t4⟩ := sell_m hI.1 hK hl hr1 hcb p2
            refine ⟨σ1, τ, C, t1, t2, p3, t3, ?_⟩
            unfold dc_X10_sell
            rw [p1, bv_s, isL_eq p2.1 hc, bd_s, if_pos h, if_neg (by decide), in_eq, bd_s, rng, if_pos hp0, if_neg (by decide), runs_eq p2.1 (by omega), bd_s, if_pos hr1, if_neg (by decide), of_8 p2.1 (by omega), bd_s, if_pos h8]
            exact t4
          by_cases hf : Fit Z.1 (fun n => nil n + hp Z.1 l c n)
          · refine Pair.act2 (K := K) hI' (wsm (sB Z.1 l c) l (nc Z.1)) (sM Z.1 l c) (InvM_sM hI.1 hK hl hcb hf) (fun σ hr => ?_) (fun σ hr => ?_)
            · obtain ⟨σ0, r, a1, a2, a3, a4⟩ := pc σ hr
              rcases a3 with ⟨rfl, -⟩ | ⟨-, nf⟩
              · obtain ⟨σ1, p1, p2, p3⟩ := record_eq (a1.rcl hr)
                have a2' : PA σ1 nil (hp Z.1 l c) (wq Z.1 l c) := fun n hn => by rw [p3 288 rfl (by decide)]; exact a2 n hn
                obtain ⟨σ2, b1, b2, b3⟩ := carry_c p2.1 hc hI.1.hd a2'
                have b4 : Cla (up σ2 88 0 0 (sQ Z.1 l c - sA2 Z.1 l c)) 0 (sB Z.1 l c) := Cla_up88 b3
                obtain ⟨σ3, c1, c2, c3⟩ := end_c (l := l) (s := 3) (by omega) b4
                have hE3 : nc (endM (sB Z.1 l c) l 3) = nc Z.1 := by unfold nc; rw [endM_out (by omega)]; exact sB_n
                have cE : Cnt (endM (sB Z.1 l c) l 3) := (sB_cnt hc).same (endM_out (by omega)) (endM_out (by omega)) (endM_out (by omega))
                have hE : Hd (endM (sB Z.1 l c) l 3) := fun n hn => by
                  rw [hE3] at hn
                  unfold isI
                  rw [endM_out (by omega), endM_out (by omega)]
                  exact sB_hd hI.1.hd n (by rw [sB_n]; exact hn)
                obtain ⟨σ4, d1, d2, d3⟩ := wo_c9 (l := l) c3 cE hE
                rw [hE3, wsm_end (by omega)] at d1
                rw [hE3, wo_end (by omega)] at d3
                refine ⟨σ0, σ1, σ4, a1.sameM, p3, p2, ?_, b2.trans ((FrJ_up rfl (FrJ.refl 0 σ2)).trans (c2.trans d2)), d3⟩
                rw [a4, if_neg (by decide), p1, bv_s, b1, bv_s, c1, bv_s, d1, bd_s]
              · exact absurd hf nf
            · obtain ⟨σ1, τ, C, t1, t2, t3, t4, t5⟩ := pm σ hr
              obtain ⟨υ, u1, u2, u3⟩ := (t1.fin hc hI.1.hd t2 (wsm (sB Z.1 l c) l (nc Z.1))).1 hf
              rw [t5, u1, bd_s]
              exact ⟨υ, rfl, u2, t3.trans (t4.trans u3)⟩
          · refine ⟨-3, Z, hI', fun σ hr => ?_, fun σ hr => ?_⟩
            · obtain ⟨σ0, r, a1, a2, a3, a4⟩ := pc σ hr
              rcases a3 with ⟨-, z⟩ | ⟨rfl, -⟩
              · exact absurd z hf
              · rw [a4, if_pos rfl]
                exact ⟨σ0, rfl, a1.rcl hr, a1.sameM⟩
            · obtain ⟨σ1, τ, C, t1, t2, t3, t4, t5⟩ := pm σ hr
              obtain ⟨υ, u1, u2, u3⟩ := (t1.fin hc hI.1.hd t2 (wsm (sB Z.1 l c) l (nc Z.1))).2 hf
              rw [t5, u1, bd_s]
              exact ⟨υ, rfl, u2, t3.trans (t4.trans u3)⟩
        · refine Pair.no hI' (-4) (fun σ hr => ?_) (fun σ hr => ?_)
          · have q := hr.1.2.2.1 l (by omega)
            unfold dc_X9_sell
            rw [hasL_eq hr.1, bd_s, if_pos h, if_neg (by decide), isPc_eq, bd_s, rng, if_pos hp0, if_neg (by decide), xruns_eq hr.1 hc hl, bd_s, if_pos hr1, if_neg (by decide), if_pos (inb_nI (show l < 10 by omega) (by decide)), nI_clamp (by omega), q.2.2.2.2.2.2.2.2.1, if_neg h8]
          · obtain ⟨σ1, p1, p2, p3⟩ := aside_eq hr
            unfold dc_X10_sell
            rw [p1, bv_s, isL_eq p2.1 hc, bd_s, if_pos h, if_neg (by decide), in_eq, bd_s, rng, if_pos hp0, if_neg (by decide), runs_eq p2.1 (by omega), bd_s, if_pos hr1, if_neg (by decide), of_8 p2.1 (by omega), bd_s, if_neg h8]
            exact ⟨σ1, rfl, p2.out, p3⟩
      · refine Pair.no hI' (-4) (fun σ hr => ?_) (fun σ hr => ?_)
        · unfold dc_X9_sell
          rw [hasL_eq hr.1, bd_s, if_pos h, if_neg (by decide), isPc_eq, bd_s, rng, if_pos hp0, if_neg (by decide), xruns_eq hr.1 hc hl, bd_s, if_neg hr1, if_pos rfl]
        · obtain ⟨σ1, p1, p2, p3⟩ := aside_eq hr
          unfold dc_X10_sell
          rw [p1, bv_s, isL_eq p2.1 hc, bd_s, if_pos h, if_neg (by decide), in_eq, bd_s, rng, if_pos hp0, if_neg (by decide), runs_eq p2.1 (by omega), bd_s, if_neg hr1, if_pos rfl]
          exact ⟨σ1, rfl, p2.out, p3⟩
    · refine Pair.no hI' (-2) (fun σ hr => ?_) (fun σ hr => ?_)
      · unfold dc_X9_sell
        rw [hasL_eq hr.1, bd_s, if_pos h, if_neg (by decide), isPc_eq, bd_s, rng, if_neg hp0, if_pos rfl]
      · obtain ⟨σ1, p1, p2, p3⟩ := aside_eq hr
        unfold dc_X10_sell
        rw [p1, bv_s, isL_eq p2.1 hc, bd_s, if_pos h, if_neg (by decide), in_eq, bd_s, rng, if_neg hp0, if_pos rfl]
        exact ⟨σ1, rfl, p2.out, p3⟩
  · refine Pair.no hI' (-1) (fun σ hr => ?_) (fun σ hr => ?_)
    · unfold dc_X9_sell
      rw [hasL_eq hr.1, bd_s, if_neg h, if_pos rfl]
    · obtain ⟨σ1, p1, p2, p3⟩ := aside_eq hr
      unfold dc_X10_sell
      rw [p1, bv_s, isL_eq p2.1 hc, bd_s, if_neg h, if_pos rfl]
      exact ⟨σ1, rfl, p2.out, p3⟩
