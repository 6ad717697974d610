theorem pyM_low {m : Mt} {l : Nat} {c : Int32} {j : Nat} (hs : svc m l < 4) (h1 : j < 34) (h2 : ¬ (4 ≤ j ∧ j < 10)) : pyM m l c j = coJ m (gi m l c) (gp m l c) (nc m) j := by
  unfold pyM
  rw [tkM_out (by omega), pyB_out hs (by omega) (by omega)]
theorem pyM_oth {m : Mt} {l l' w : Nat} {c : Int32} (hs : svc m l < 4) (hl : l' < 10) (hw : w < 11) (hne : ¬ l' = l) : pyM m l c (34 + 11 * l' + w) = m (34 + 11 * l' + w) := by
  unfold pyM
  rw [tkM_out (by omega), pyB_l hs hl hw]
theorem tkM_rn {E : Mt} {l : Nat} {i p : Int32} (h : tkM E l i p (34 + 11 * l + 3) = 1) : ¬ (tkM E l i p (34 + 11 * l + 4) = 0 ∧ tkM E l i p (34 + 11 * l + 6) = 0) := by
  have v := tkB_v (E := E) (l := l) (i := i) (p := p)
  unfold tkM at h ⊢
  by_cases c : E (34 + 11 * l + 6) - i = 0 ∧ E (34 + 11 * l + 4) - p = 0
  · rw [if_pos c, endM_in.1] at h
    exact absurd h (by decide)
  · rw [if_neg c, v.2.1, v.1]
    exact fun z => c ⟨z.2, z.1⟩
theorem lpaid {s : Nat} {σ : Sto} {Z : Zt} (hs : s ≤ 60) (hJ : Jv s σ Z) (x : Int32) : Ok (Je s) (dc_L_isPaid x σ) := by
  obtain ⟨hr, hI, hLr, hL, h1, hb, hR⟩ := id hJ
  obtain ⟨hc, hn, hm1, hm2⟩ := id hL
  obtain ⟨h3, hn'⟩ := hc.c
  have ha := hL.a
  have hbn := hL.b
  have z0 : (0 : Int32).toInt = 0 := rfl
  have z1 : (1 : Int32).toInt = 1 := rfl
  have z9 : (199999 : Int32).toInt = 199999 := rfl
  have g2 : σ.1 304 0 2 = nI (nc Z.1) := (hLr _ _ _ rg2).trans h3
  have g4 := hLr _ _ _ rg4
  unfold dc_L_isPaid
  rw [if_pos (of_eq_true i91), cl_1, h1, lowE (n := 4) (by decide)]
  obtain ⟨k, hk, ek⟩ := lw_nI (v := x) (n := 4) (N := 4) rfl (by decide) (by decide)
  rw [ek]
  have hkb : k < nb Z.1 := by omega
  have hLo := hI.1.2.2.2.2.2.1 k hkb
  have L3' := hLr _ _ _ (rlw (w := 3) hk (by decide))
  have L4 := hLr _ _ _ (rlw (w := 4) hk (by decide))
  have L6 := hLr _ _ _ (rlw (w := 6) hk (by decide))
  have L9 := hLr _ _ _ (rlw (w := 9) hk (by decide))
  have sv := svc_eq hI.1 hkb
  have c3i : inb (nI (11 * k + 3)) 44 = True := inT44 (by omega)
  have c4i : inb (nI (11 * k + 4)) 44 = True := inT44 (by omega)
  have c6i : inb (nI (11 * k + 6)) 44 = True := inT44 (by omega)
  have c7i : inb (nI (11 * k + 7)) 44 = True := inT44 (by omega)
  have c8i : inb (nI (11 * k + 8)) 44 = True := inT44 (by omega)
  have c9i : inb (nI (11 * k + 9)) 44 = True := inT44 (by omega)
  have c10i : inb (nI (11 * k + 10)) 44 = True := inT44 (by omega)
  rw [xm11, xp3, xp4, xp6, xp7, xp8, xp9, xp10, cl_2, cl_3, cl_4, clN (k := 11 * k + 3) (by omega), clN (k := 11 * k + 4) (by omega), clN (k := 11 * k + 6) (by omega), clN (k := 11 * k + 7) (by omega), clN (k := 11 * k + 8) (by omega), clN (k := 11 * k + 9) (by omega), clN (k := 11 * k + 10) (by omega)]
  rw [if_pos (of_eq_true c6i), if_pos (of_eq_true c4i), if_pos (of_eq_true c9i), L4, L6, L9]
  rw [lowE (n := 5) (by decide)]
  refine ok_jn fun kk hkk => ?_
  have H : ∀ c : Int32, 1 ≤ c.toInt → c.toInt ≤ 2000000 → Ok (Je s) (kk c σ) := fun c hc1 hc2 => by
    rw [hkk]
    clear hkk kk
    have hfb := feeb (svc Z.1 k)
    have hprod : c.toInt * (feeI (svc Z.1 k)).toInt < 2147483648 := by
      rcases feef sv.2 with h | h | h | h <;> rw [h] <;> omega
    have ecut : (c.toInt64 * (feeI (svc Z.1 k)).toInt64 / (1000 : Int64)).toInt32 = pFee Z.1 k c := lmd_s (w := 1000) (by omega) (by omega) rfl (by decide) hprod
    show Ok (Je s) (bd _ _)
    rw [sv.1, bdE (lfee_eq sv.2), ecut, if_pos (of_eq_true c3i)]
    refine ok_jn fun k10 hk10 => ?_
    rw [L3']
    have F : (c.toInt ≤ 199999 → ¬ pOk Z.1 k c) → Ok (Je s) k10 := fun hno => by
      rw [hk10]
      refine ok_jn fun k12 hk12 => ?_
      have E : ∀ τ, RCl τ Z → SameM σ τ → Ok (Je s) (k12 τ) := fun τ r1 s1 => by
        rw [hk12]
        refine ok_q (e_pay2 hI hkb (c := 0) (by decide)) r1 fun τ2 r2 s2 => ?_
        rw [if_pos rfl, if_pos (of_eq_true i91), s2 304 rfl, s1 304 rfl, h1]
        refine ok_q (e_pay1 hI (notL4 hL)) r2 fun τ3 r3 s3 => ?_
        rw [if_pos rfl]
        exact ok_r (je_q hJ r3 (s1.trans (s2.trans s3)))
      by_cases d : c ≤ 199999
      · have d' := d
        rw [tle, z9] at d'
        have hp : (1 : Int32).toInt ≤ c.toInt ∧ c.toInt ≤ (199999 : Int32).toInt := by rw [z1, z9]; exact ⟨hc1, d'⟩
        rw [if_pos d]
        refine ok_q (e_pay4 hI hkb hp (hno d')) hr fun τ1 r1 s1 => ?_
        rw [if_pos rfl]
        refine ok_q (e_split4 hI hkb hp (w := 0) (by decide) (hno d')) r1 fun τ2 r2 s2 => ?_
        rw [if_pos rfl]
        exact E τ2 r2 (s1.trans s2)
      · have d' := d
        rw [tle, z9] at d'
        rw [if_neg d]
        refine ok_q (e_pay2 hI hkb (c := c) (by rw [z1, z9]; omega)) hr fun τ1 r1 s1 => ?_
        rw [if_pos rfl]
        exact E τ1 r1 s1
    by_cases c3 : Z.1 (34 + 11 * k + 3) = 1
    rotate_left
    · rw [if_neg c3]; exact F fun _ z => c3 z.1
    rw [if_pos c3]
    by_cases c4 : Z.1 (34 + 11 * k + 6) + Z.1 (34 + 11 * k + 4) < c - pFee Z.1 k c
    · rw [if_pos c4]
      refine F fun _ z => ?_
      have h2 : c - pFee Z.1 k c ≤ Z.1 (34 + 11 * k + 6) + Z.1 (34 + 11 * k + 4) := z.2
      rw [tle] at h2
      rw [tlt] at c4
      omega
    rw [if_neg c4]
    by_cases c5 : c ≤ 199999
    rotate_left
    · rw [if_neg c5]
      refine F fun z => absurd ?_ c5
      rw [tle, z9]
      exact z
    rw [if_pos c5, if_pos (of_eq_true c6i)]
    have c5' := c5
    rw [tle, z9] at c5'
    have hp : (1 : Int32).toInt ≤ c.toInt ∧ c.toInt ≤ (199999 : Int32).toInt := by rw [z1, z9]; exact ⟨hc1, c5'⟩
    have hcb : 0 ≤ c.toInt ∧ c.toInt ≤ 199999 := by omega
    have ho : pOk Z.1 k c := ⟨c3, by
      show c - pFee Z.1 k c ≤ _
      rw [tle]
      rw [tlt] at c4
      omega⟩
    have q := pn hI.1 hkb hcb ho
    clear F hk10 k10
    rw [L6, g4]
    refine ok_jn fun k24 hk24 => ?_
    have e24 : (if Z.1 (34 + 11 * k + 6) ≤ c - pFee Z.1 k c then k24 (Z.1 (34 + 11 * k + 6)) else k24 (c - pFee Z.1 k c)) = k24 (pInt Z.1 k c) := by
      unfold pInt pRest
      by_cases d : Z.1 (34 + 11 * k + 6) ≤ c - pFee Z.1 k c
      · rw [if_pos d, if_pos d]
      · rw [if_neg d, if_neg d]
    rw [if_pos (of_eq_true c6i), e24, hk24]
    clear e24 hk24 k24
    show Ok (Je s) (if _ then _ else _)
    rw [if_pos (of_eq_true i94)]
    have epool := (pool_b hI.1 hkb hcb).2.2.2
    rw [bdE (lpr_eq hLr hc hn (nI k) 0 0 (Or.inr ⟨by decide, rfl, by decide⟩)), epool, show c - pFee Z.1 k c - pInt Z.1 k c = pPri Z.1 k c from rfl]
    refine ok_jn fun k28 hk28 => ?_
    have e28 : (if pr Z.1 (nI k) 0 ≤ pPri Z.1 k c then k28 (pr Z.1 (nI k) 0) else k28 (pPri Z.1 k c)) = k28 (pSen Z.1 k c) := by
      unfold pSen
      by_cases d : pr Z.1 (nI k) 0 ≤ pPri Z.1 k c
      · rw [if_pos d, if_pos d]
      · rw [if_neg d, if_neg d]
    rw [e28, hk28]
    clear e28 hk28 k28
    refine ok_q (e_split hI hkb hp (w := 0) (by decide) ho) hr fun τ1 r1 s1 => ?_
    rw [show spl Z.1 k c 0 = pFee Z.1 k c from rfl, if_pos rfl]
    refine ok_q (e_split hI hkb hp (w := 1) (by decide) ho) r1 fun τ2 r2 s2 => ?_
    rw [show spl Z.1 k c 1 = pInt Z.1 k c from rfl, if_pos rfl]
    refine ok_q (e_split hI hkb hp (w := 2) (by decide) ho) r2 fun τ3 r3 s3 => ?_
    rw [show spl Z.1 k c 2 = pPool Z.1 k c from rfl, if_pos rfl]
    refine ok_q (e_split hI hkb hp (w := 3) (by decide) ho) r3 fun τ4 r4 s4 => ?_
    rw [show spl Z.1 k c 3 = pPri Z.1 k c from rfl, if_pos rfl]
    refine ok_q (e_split hI hkb hp (w := 4) (by decide) ho) r4 fun τ5 r5 s5 => ?_
    rw [show spl Z.1 k c 4 = pSen Z.1 k c from rfl, if_pos rfl]
    refine ok_q (e_split hI hkb hp (w := 5) (by decide) ho) r5 fun τ6 r6 s6 => ?_
    rw [show spl Z.1 k c 5 = pPri Z.1 k c - pSen Z.1 k c from rfl, if_pos rfl]
    have sT : SameM σ τ6 := s1.trans (s2.trans (s3.trans (s4.trans (s5.trans s6))))
    clear s1 s2 s3 s4 s5 s6 r1 r2 r3 r4 r5 τ1 τ2 τ3 τ4 τ5
    have hT := hLr.same sT
    have gs := hT _ _ _ (rg5 sv.2)
    have gp3 := hT _ _ _ rg3
    rw [xq5, if_pos (of_eq_true (inT9 (by omega))), if_pos (of_eq_true (inT9 (by omega))), if_pos (of_eq_true i93), if_pos (of_eq_true i93), clN (by omega), gs, up_nl (show 3 ≠ 5 + svc Z.1 k by omega), gp3]
    refine ok_lt fun S eS => ?_
    have hS : Lr S (upd (upd Z.1 (6 + svc Z.1 k) (Z.1 (6 + svc Z.1 k) + pFee Z.1 k c)) 4 (Z.1 4 + pPool Z.1 k c)) := by
      rw [eS]
      exact (hT.pu (rg5 sv.2)).pu rg3
    have hSr : RCl S Z := by
      rw [eS]
      exact RCl_up (RCl_up r6 (by omega)) (by omega)
    have hS1 : S.1 304 0 1 = 4 := by rw [eS, up_nl (by decide), up_nl (by omega), sT 304 rfl]; exact h1
    have hS2 : S.1 304 0 2 = nI (nc Z.1) := by rw [eS, up_nl (by decide), up_nl (by omega), sT 304 rfl]; exact g2
    clear eS hT gs gp3 sT r6
    obtain ⟨τ7, t1, t2, t3, t4, t5⟩ := lpay_run hI.1 hL hkb q hS
    refine ok_bv t1 ?_
    sorry
  sorry
