theorem pyM_low {m : Mt} {l : Nat} {c : Int32} {j : Nat} (hs : svc m l < 4) (h1 : j < 34) (h2 : ¬ (4 ≤ j ∧ j < 10)) : pyM m l c j = coJ m (gi m l c) (gp m l c) (nc m) j := by
  unfold pyM
  rw [tkM_out (by omega), pyB_out hs (by omega) (by omega)]
theorem pyM_oth {m : Mt} {l l' w : Nat} {c : Int32} (hs : svc m l < 4) (hl : l' < 10) (hw : w < 11) (hne : ¬ l' = l) : pyM m l c (34 + 11 * l' + w) = m (34 + 11 * l' + w) := by
  unfold pyM
  rw [tkM_out (by omega), pyB_l hs hl hw]
theorem tkM_rn {E : Mt} {l : Nat} {i p : Int32} (h : tkM E l i p (34 + 11 * l + 3) = 1) : ¬ (tkM E l i p (34 + 11 * l + 4) = 0 ∧ tkM E l i p (34 + 11 * l + 6) = 0) := by
  have v := tkB_v (E := E) (l := l) (i := i) (p := p)
  unfold tkM at h ⊢
  by_cases c : E (34 + 11 * l + 6) - i = 0 ∧ E (34 + 11 * l + 4) - p = 0
  · rw [if_pos c, endM_in.1] at h
    exact absurd h (by decide)
  · rw [if_neg c, v.2.1, v.1]
    exact fun z => c ⟨z.2, z.1⟩
theorem lpaid {s : Nat} {σ : Sto} {Z : Zt} (hs : s ≤ 60) (hJ : Jv s σ Z) (x : Int32) : Ok (Je s) (dc_L_isPaid x σ) := by
  obtain ⟨hr, hI, hLr, hL, h1, hb, hR⟩ := id hJ
  obtain ⟨hc, hn, hm1, hm2⟩ := id hL
  obtain ⟨h3, hn'⟩ := hc.c
  have ha := hL.a
  have hbn := hL.b
  have z0 : (0 : Int32).toInt = 0 := rfl
  have z1 : (1 : Int32).toInt = 1 := rfl
  have z9 : (199999 : Int32).toInt = 199999 := rfl
  have g2 : σ.1 304 0 2 = nI (nc Z.1) := (hLr _ _ _ rg2).trans h3
  have g4 := hLr _ _ _ rg4
  unfold dc_L_isPaid
  rw [if_pos (of_eq_true i91), cl_1, h1, lowE (n := 4) (by decide)]
  obtain ⟨k, hk, ek⟩ := lw_nI (v := x) (n := 4) (N := 4) rfl (by decide) (by decide)
  rw [ek]
  have hkb : k < nb Z.1 := by omega
  have hLo := hI.1.2.2.2.2.2.1 k hkb
  have L3' := hLr _ _ _ (rlw (w := 3) hk (by decide))
  have L4 := hLr _ _ _ (rlw (w := 4) hk (by decide))
  have L6 := hLr _ _ _ (rlw (w := 6) hk (by decide))
  have L9 := hLr _ _ _ (rlw (w := 9) hk (by decide))
  have sv := svc_eq hI.1 hkb
  have c3i : inb (nI (11 * k + 3)) 44 = True := inT44 (by omega)
  have c4i : inb (nI (11 * k + 4)) 44 = True := inT44 (by omega)
  have c6i : inb (nI (11 * k + 6)) 44 = True := inT44 (by omega)
  have c7i : inb (nI (11 * k + 7)) 44 = True := inT44 (by omega)
  have c8i : inb (nI (11 * k + 8)) 44 = True := inT44 (by omega)
  have c9i : inb (nI (11 * k + 9)) 44 = True := inT44 (by omega)
  have c10i : inb (nI (11 * k + 10)) 44 = True := inT44 (by omega)
  rw [xm11, xp3, xp4, xp6, xp7, xp8, xp9, xp10, cl_2, cl_3, cl_4, clN (k := 11 * k + 3) (by omega), clN (k := 11 * k + 4) (by omega), clN (k := 11 * k + 6) (by omega), clN (k := 11 * k + 7) (by omega), clN (k := 11 * k + 8) (by omega), clN (k := 11 * k + 9) (by omega), clN (k := 11 * k + 10) (by omega)]
  rw [if_pos (of_eq_true c6i), if_pos (of_eq_true c4i), if_pos (of_eq_true c9i), L4, L6, L9]
  rw [lowE (n := 5) (by decide)]
  refine ok_jn fun kk hkk => ?_
  have H : ∀ c : Int32, 1 ≤ c.toInt → c.toInt ≤ 2000000 → Ok (Je s) (kk c σ) := fun c hc1 hc2 => by
    rw [hkk]
    clear hkk kk
    have hfb := feeb (svc Z.1 k)
    have hprod : c.toInt * (feeI (svc Z.1 k)).toInt < 2147483648 := by
      rcases feef sv.2 with h | h | h | h <;> rw [h] <;> omega
    have ecut : (c.toInt64 * (feeI (svc Z.1 k)).toInt64 / (1000 : Int64)).toInt32 = pFee Z.1 k c := lmd_s (w := 1000) (by omega) (by omega) rfl (by decide) hprod
    show Ok (Je s) (bd _ _)
    rw [sv.1, bdE (lfee_eq sv.2), ecut, if_pos (of_eq_true c3i)]
    refine ok_jn fun k10 hk10 => ?_
    rw [L3']
    have F : (c.toInt ≤ 199999 → ¬ pOk Z.1 k c) → Ok (Je s) k10 := fun hno => by
      rw [hk10]
      refine ok_jn fun k12 hk12 => ?_
      have E : ∀ τ, RCl τ Z → SameM σ τ → Ok (Je s) (k12 τ) := fun τ r1 s1 => by
        rw [hk12]
        refine ok_q (e_pay2 hI hkb (c := 0) (by decide)) r1 fun τ2 r2 s2 => ?_
        rw [if_pos rfl, if_pos (of_eq_true i91), s2 304 rfl, s1 304 rfl, h1]
        refine ok_q (e_pay1 hI (notL4 hL)) r2 fun τ3 r3 s3 => ?_
        rw [if_pos rfl]
        exact ok_r (je_q hJ r3 (s1.trans (s2.trans s3)))
      by_cases d : c ≤ 199999
      · have d' := d
        rw [tle, z9] at d'
        have hp : (1 : Int32).toInt ≤ c.toInt ∧ c.toInt ≤ (199999 : Int32).toInt := by rw [z1, z9]; exact ⟨hc1, d'⟩
        rw [if_pos d]
        refine ok_q (e_pay4 hI hkb hp (hno d')) hr fun τ1 r1 s1 => ?_
        rw [if_pos rfl]
        refine ok_q (e_split4 hI hkb hp (w := 0) (by decide) (hno d')) r1 fun τ2 r2 s2 => ?_
        rw [if_pos rfl]
        exact E τ2 r2 (s1.trans s2)
      · have d' := d
        rw [tle, z9] at d'
        rw [if_neg d]
        refine ok_q (e_pay2 hI hkb (c := c) (by rw [z1, z9]; omega)) hr fun τ1 r1 s1 => ?_
        rw [if_pos rfl]
        exact E τ1 r1 s1
    by_cases c3 : Z.1 (34 + 11 * k + 3) = 1
    rotate_left
    · rw [if_neg c3]; exact F fun _ z => c3 z.1
    rw [if_pos c3]
    by_cases c4 : Z.1 (34 + 11 * k + 6) + Z.1 (34 + 11 * k + 4) < c - pFee Z.1 k c
    · rw [if_pos c4]
      refine F fun _ z => ?_
      have h2 : c - pFee Z.1 k c ≤ Z.1 (34 + 11 * k + 6) + Z.1 (34 + 11 * k + 4) := z.2
      rw [tle] at h2
      rw [tlt] at c4
      omega
    rw [if_neg c4]
    by_cases c5 : c ≤ 199999
    rotate_left
    · rw [if_neg c5]
      refine F fun z => absurd ?_ c5
      rw [tle, z9]
      exact z
    rw [if_pos c5, if_pos (of_eq_true c6i)]
    have c5' := c5
    rw [tle, z9] at c5'
    have hp : (1 : Int32).toInt ≤ c.toInt ∧ c.toInt ≤ (199999 : Int32).toInt := by rw [z1, z9]; exact ⟨hc1, c5'⟩
    have hcb : 0 ≤ c.toInt ∧ c.toInt ≤ 199999 := by omega
    have ho : pOk Z.1 k c := ⟨c3, by
      show c - pFee Z.1 k c ≤ _
      rw [tle]
      rw [tlt] at c4
      omega⟩
    have q := pn hI.1 hkb hcb ho
    clear F hk10 k10
    rw [L6, g4]
    refine ok_jn fun k24 hk24 => ?_
    have e24 : (if Z.1 (34 + 11 * k + 6) ≤ c - pFee Z.1 k c then k24 (Z.1 (34 + 11 * k + 6)) else k24 (c - pFee Z.1 k c)) = k24 (pInt Z.1 k c) := by
      unfold pInt pRest
      by_cases d : Z.1 (34 + 11 * k + 6) ≤ c - pFee Z.1 k c
      · rw [if_pos d, if_pos d]
      · rw [if_neg d, if_neg d]
    rw [if_pos (of_eq_true c6i), e24, hk24]
    clear e24 hk24 k24
    show Ok (Je s) (if _ then _ else _)
    rw [if_pos (of_eq_true i94)]
    have epool := (pool_b hI.1 hkb hcb).2.2.2
    rw [bdE (lpr_eq hLr hc hn (nI k) 0 0 (Or.inr ⟨by decide, rfl, by decide⟩)), epool, show c - pFee Z.1 k c - pInt Z.1 k c = pPri Z.1 k c from rfl]
    refine ok_jn fun k28 hk28 => ?_
    have e28 : (if pr Z.1 (nI k) 0 ≤ pPri Z.1 k c then k28 (pr Z.1 (nI k) 0) else k28 (pPri Z.1 k c)) = k28 (pSen Z.1 k c) := by
      unfold pSen
      by_cases d : pr Z.1 (nI k) 0 ≤ pPri Z.1 k c
      · rw [if_pos d, if_pos d]
      · rw [if_neg d, if_neg d]
    rw [e28, hk28]
    clear e28 hk28 k28
    refine ok_q (e_split hI hkb hp (w := 0) (by decide) ho) hr fun τ1 r1 s1 => ?_
    rw [show spl Z.1 k c 0 = pFee Z.1 k c from rfl, if_pos rfl]
    refine ok_q (e_split hI hkb hp (w := 1) (by decide) ho) r1 fun τ2 r2 s2 => ?_
    rw [show spl Z.1 k c 1 = pInt Z.1 k c from rfl, if_pos rfl]
    refine ok_q (e_split hI hkb hp (w := 2) (by decide) ho) r2 fun τ3 r3 s3 => ?_
    rw [show spl Z.1 k c 2 = pPool Z.1 k c from rfl, if_pos rfl]
    refine ok_q (e_split hI hkb hp (w := 3) (by decide) ho) r3 fun τ4 r4 s4 => ?_
    rw [show spl Z.1 k c 3 = pPri Z.1 k c from rfl, if_pos rfl]
    refine ok_q (e_split hI hkb hp (w := 4) (by decide) ho) r4 fun τ5 r5 s5 => ?_
    rw [show spl Z.1 k c 4 = pSen Z.1 k c from rfl, if_pos rfl]
    refine ok_q (e_split hI hkb hp (w := 5) (by decide) ho) r5 fun τ6 r6 s6 => ?_
    rw [show spl Z.1 k c 5 = pPri Z.1 k c - pSen Z.1 k c from rfl, if_pos rfl]
    have sT : SameM σ τ6 := s1.trans (s2.trans (s3.trans (s4.trans (s5.trans s6))))
    clear s1 s2 s3 s4 s5 s6 r1 r2 r3 r4 r5 τ1 τ2 τ3 τ4 τ5
    have hT := hLr.same sT
    have gs := hT _ _ _ (rg5 sv.2)
    have gp3 := hT _ _ _ rg3
    rw [xq5, if_pos (of_eq_true (inT9 (by omega))), if_pos (of_eq_true (inT9 (by omega))), if_pos (of_eq_true i93), if_pos (of_eq_true i93), clN (by omega), gs, up_nl (show 3 ≠ 5 + svc Z.1 k by omega), gp3]
    refine ok_lt fun S eS => ?_
    have hS : Lr S (upd (upd Z.1 (6 + svc Z.1 k) (Z.1 (6 + svc Z.1 k) + pFee Z.1 k c)) 4 (Z.1 4 + pPool Z.1 k c)) := by
      rw [eS]
      exact (hT.pu (rg5 sv.2)).pu rg3
    have hSr : RCl S Z := by
      rw [eS]
      exact RCl_up (RCl_up r6 (by omega)) (by omega)
    have hS1 : S.1 304 0 1 = 4 := by rw [eS, up_nl (by decide), up_nl (by omega), sT 304 rfl]; exact h1
    have hS2 : S.1 304 0 2 = nI (nc Z.1) := by rw [eS, up_nl (by decide), up_nl (by omega), sT 304 rfl]; exact g2
    clear eS hT gs gp3 sT r6
    obtain ⟨τ7, t1, t2, t3, t4, t5⟩ := lpay_run hI.1 hL hkb q hS
    refine ok_bv t1 ?_
    obtain ⟨m1, hm1⟩ : ∃ m1, m1 = upd (upd Z.1 (6 + svc Z.1 k) (Z.1 (6 + svc Z.1 k) + pFee Z.1 k c)) 4 (Z.1 4 + pPool Z.1 k c) := ⟨_, rfl⟩
    rw [← hm1] at t3 t5
    have em : ∀ x, ¬ (4 ≤ x ∧ x < 10) → m1 x = Z.1 x := fun x hx => by rw [hm1, upd_ne (by omega), upd_ne (by have := sv.2; omega)]
    clear hS hm1
    refine wh1_cp2 (T := Ok (Je s)) (fun j υ => Lr υ (coJ m1 (gI Z.1 k c) nil j) ∧ FrL S υ ∧ υ.1 384 = τ7.1 384) (nc Z.1) (by omega) (fun j υ rec hj hP ih => ?_) (fun υ rec hP => ?_) ⟨by rw [coJ_0]; exact t3, t2, rfl⟩
    · obtain ⟨p1, p2, p3⟩ := hP
      obtain ⟨i, hi, he⟩ := isI_of hc (hI.1.hd j hj)
      rw [ha] at hi
      have hj10 : j < 10 := by omega
      have he1 : m1 (144 + 7 * j) = nI i := (em _ (by omega)).trans he
      have g2' : υ.1 304 0 2 = nI (nc Z.1) := by rw [p2.2]; exact hS2
      have n0 : υ.1 352 0 (6 * j) = nI i := (p1 _ _ _ (rn0 hj10)).trans (coJ_j0.trans he1)
      have i0 := p1 _ _ _ (ri0 hi)
      have i1 := p1 _ _ _ (ri1 hi)
      have n4 := p1 _ _ _ (rn4 hj10)
      have eg : υ.1 384 0 j = gI Z.1 k c j := by rw [p3]; exact t4 j hj
      have hih := ih (up (up (up υ 320 0 (3 * i) (coJ m1 (gI Z.1 k c) nil j (10 + 3 * i) + gI Z.1 k c j)) 320 0 (3 * i + 1) (coJ m1 (gI Z.1 k c) nil j (10 + 3 * i + 1) + gI Z.1 k c j)) 352 0 (6 * j + 4) (coJ m1 (gI Z.1 k c) nil j (144 + 7 * j + 5) + gI Z.1 k c j)) ⟨by
        rw [coJ_i2 (by omega) he1]
        exact ((p1.pu (ri0 hi)).pu (ri1 hi)).pu (rn4 hj10), FrL_up (FrL_up (FrL_up p2 (by omega)) (by omega)) (by omega), by rw [up_f (by decide), up_f (by decide), up_f (by decide)]; exact p3⟩
      rw [if_pos (of_eq_true i92), g2', if_neg (by rw [nI_leI (by omega) (by omega)]; omega)]
      simp (disch := omega) only [↓reduceIte, ↓lt_eq, xm6, xm3, xp1, xp4, inT60, inT9, inT10, clN, n0, i0, i1, n4, eg, up_ne, up_nl]
      exact hih
    · obtain ⟨p1, p2, p3⟩ := hP
      have g2' : υ.1 304 0 2 = nI (nc Z.1) := by rw [p2.2]; exact hS2
      rw [if_pos (of_eq_true i92), g2', if_pos (by rw [nI_leI (by omega) (by omega)]; omega)]
      clear rec
      obtain ⟨τ8, u1, u2, τ9, u3, u4, u5⟩ := t5 υ p1
      rw [bdE u1, bdE u3, if_pos rfl]
      have hF : FrL S τ9 := p2.trans (u2.trans u4)
      have h91 : τ9.1 304 0 1 = 4 := by rw [hF.2]; exact hS1
      have R9 : RCl τ9 Z := RCl_L hSr hF
      clear u1 u2 u3 u4 p1 p2 p3 g2' t5 t4 t3 t2 t1 hF hSr hS1 hS2
      obtain ⟨E, hE⟩ : ∃ E, E = pyB Z.1 k c := ⟨_, rfl⟩
      have eE : ∀ w, w < 11 → E (34 + 11 * k + w) = Z.1 (34 + 11 * k + w) := fun w hw => by rw [hE]; exact pyB_l sv.2 (by omega) hw
      rw [← hE] at u5
      have M4 := u5 _ _ _ (rlw (w := 4) hk (by decide))
      have M6 := u5 _ _ _ (rlw (w := 6) hk (by decide))
      have M7 := u5 _ _ _ (rlw (w := 7) hk (by decide))
      have M8 := u5 _ _ _ (rlw (w := 8) hk (by decide))
      have M10 := u5 _ _ _ (rlw (w := 10) hk (by decide))
      rw [if_pos (of_eq_true c6i), if_pos (of_eq_true c6i), if_pos (of_eq_true c4i), if_pos (of_eq_true c4i), M6, up_nl (show 11 * k + 4 ≠ 11 * k + 6 by omega), M4]
      refine ok_lt fun S1 e1 => ?_
      have Q1 : Lr S1 (upd (upd E (34 + 11 * k + 6) (E (34 + 11 * k + 6) - pInt Z.1 k c)) (34 + 11 * k + 4) (E (34 + 11 * k + 4) - pPri Z.1 k c)) := by
        rw [e1]
        exact (u5.pu (rlw hk (by decide))).pu (rlw hk (by decide))
      have R1 : RCl S1 Z := by rw [e1]; exact RCl_up (RCl_up R9 (by omega)) (by omega)
      have h11 : S1.1 304 0 1 = 4 := by rw [e1, up_ne (by decide), up_ne (by decide)]; exact h91
      have N6 : S1.1 336 0 (11 * k + 6) = E (34 + 11 * k + 6) - pInt Z.1 k c := by rw [e1, up_nl (by omega), up_eq]
      have N4 : S1.1 336 0 (11 * k + 4) = E (34 + 11 * k + 4) - pPri Z.1 k c := by rw [e1, up_eq]
      have N7 : S1.1 336 0 (11 * k + 7) = E (34 + 11 * k + 7) := by rw [e1, up_nl (by omega), up_nl (by omega)]; exact M7
      have N8 : S1.1 336 0 (11 * k + 8) = E (34 + 11 * k + 8) := by rw [e1, up_nl (by omega), up_nl (by omega)]; exact M8
      have N10 : S1.1 336 0 (11 * k + 10) = E (34 + 11 * k + 10) := by rw [e1, up_nl (by omega), up_nl (by omega)]; exact M10
      clear e1 M4 M6 M7 M8 M10 u5 R9 h91
      rw [if_pos (of_eq_true c7i), N7]
      refine ok_jn fun k53 hk53 => ?_
      have e53 : (if pPri Z.1 k c ≤ E (34 + 11 * k + 7) then (if inb (nI (11 * k + 7)) 44 then k53 (E (34 + 11 * k + 7) - pPri Z.1 k c) else none) else k53 0) = k53 (b7 E k (pPri Z.1 k c)) := by
        rw [if_pos (of_eq_true c7i)]
        unfold b7
        by_cases d : pPri Z.1 k c ≤ E (34 + 11 * k + 7)
        · rw [if_pos d]
          by_cases d2 : E (34 + 11 * k + 7) ≤ pPri Z.1 k c
          · have : E (34 + 11 * k + 7) = pPri Z.1 k c := by
              rw [tle] at d d2
              rw [teq]
              omega
            rw [if_pos d2, this, Int32.sub_self]
          · rw [if_neg d2]
        · rw [if_neg d, if_pos (by rw [tle] at d ⊢; omega)]
      rw [e53, hk53]
      clear e53 hk53 k53
      show Ok (Je s) (if _ then _ else _)
      rw [if_pos (of_eq_true c7i), if_pos (of_eq_true c6i)]
      refine ok_jn fun k55 hk55 => ?_
      have e55 : jn (if inb (nI (11 * k + 8)) 44 then k55 ((up S1 336 0 (11 * k + 7) (b7 E k (pPri Z.1 k c))).1 336 0 (11 * k + 8)) else none) (fun k65 => if (up S1 336 0 (11 * k + 7) (b7 E k (pPri Z.1 k c))).1 336 0 (11 * k + 6) = 0 then (if inb (nI (11 * k + 7)) 44 then (if (up S1 336 0 (11 * k + 7) (b7 E k (pPri Z.1 k c))).1 336 0 (11 * k + 7) = 0 then k55 (0 : Int32) else k65) else none) else k65) = k55 (if E (34 + 11 * k + 6) - pInt Z.1 k c = 0 ∧ b7 E k (pPri Z.1 k c) = 0 then 0 else E (34 + 11 * k + 8)) := by
        rw [if_pos (of_eq_true c8i), jn_eq, if_pos (of_eq_true c7i), up_nl (show 11 * k + 8 ≠ 11 * k + 7 by omega), up_nl (show 11 * k + 6 ≠ 11 * k + 7 by omega), up_eq, N8, N6]
        by_cases d1 : E (34 + 11 * k + 6) - pInt Z.1 k c = 0
        · rw [if_pos d1]
          by_cases d2 : b7 E k (pPri Z.1 k c) = 0
          · rw [if_pos d2, if_pos ⟨d1, d2⟩]
          · rw [if_neg d2, if_neg (fun z => d2 z.2)]
        · rw [if_neg d1, if_neg (fun z => d1 z.1)]
      rw [e55, hk55]
      clear e55 hk55 k55
      show Ok (Je s) (if _ then _ else _)
      rw [if_pos (of_eq_true c8i)]
      refine ok_lt fun S2 e2 => ?_
      have Q2 : Lr S2 (upd (upd (upd (upd E (34 + 11 * k + 6) (E (34 + 11 * k + 6) - pInt Z.1 k c)) (34 + 11 * k + 4) (E (34 + 11 * k + 4) - pPri Z.1 k c)) (34 + 11 * k + 7) (b7 E k (pPri Z.1 k c))) (34 + 11 * k + 8) (if E (34 + 11 * k + 6) - pInt Z.1 k c = 0 ∧ b7 E k (pPri Z.1 k c) = 0 then 0 else E (34 + 11 * k + 8))) := by
        rw [e2]
        exact (Q1.pu (rlw hk (by decide))).pu (rlw hk (by decide))
      have R2 : RCl S2 Z := by rw [e2]; exact RCl_up (RCl_up R1 (by omega)) (by omega)
      have h21 : S2.1 304 0 1 = 4 := by rw [e2, up_ne (by decide), up_ne (by decide)]; exact h11
      have O6 : S2.1 336 0 (11 * k + 6) = E (34 + 11 * k + 6) - pInt Z.1 k c := by rw [e2, up_nl (by omega), up_nl (by omega)]; exact N6
      have O4 : S2.1 336 0 (11 * k + 4) = E (34 + 11 * k + 4) - pPri Z.1 k c := by rw [e2, up_nl (by omega), up_nl (by omega)]; exact N4
      have O10 : S2.1 336 0 (11 * k + 10) = E (34 + 11 * k + 10) := by rw [e2, up_nl (by omega), up_nl (by omega)]; exact N10
      clear e2 Q1 R1 h11 N6 N4 N7 N8 N10 S1
      rw [if_pos (of_eq_true c4i)]
      refine ok_jn fun k58 hk58 => ?_
      have e58 : jn (k58 (1 : Int32)) (fun k64 => if S2.1 336 0 (11 * k + 4) = 0 then (if inb (nI (11 * k + 6)) 44 then (if S2.1 336 0 (11 * k + 6) = 0 then k58 (2 : Int32) else k64) else none) else k64) = k58 (if E (34 + 11 * k + 4) - pPri Z.1 k c = 0 ∧ E (34 + 11 * k + 6) - pInt Z.1 k c = 0 then 2 else 1) := by
        rw [jn_eq, if_pos (of_eq_true c6i), O4, O6]
        by_cases d1 : E (34 + 11 * k + 4) - pPri Z.1 k c = 0
        · rw [if_pos d1]
          by_cases d2 : E (34 + 11 * k + 6) - pInt Z.1 k c = 0
          · rw [if_pos d2, if_pos ⟨d1, d2⟩]
          · rw [if_neg d2, if_neg (fun z => d2 z.2)]
        · rw [if_neg d1, if_neg (fun z => d1 z.1)]
      rw [e58, hk58]
      clear e58 hk58 k58
      show Ok (Je s) (if _ then _ else _)
      rw [if_pos (of_eq_true c3i), if_pos (of_eq_true c3i)]
      refine ok_jn fun k60 hk60 => ?_
      have e60 : (if (up S2 336 0 (11 * k + 3) (if E (34 + 11 * k + 4) - pPri Z.1 k c = 0 ∧ E (34 + 11 * k + 6) - pInt Z.1 k c = 0 then 2 else 1)).1 336 0 (11 * k + 3) = 2 then k60 (-5 : Int32) else (if inb (nI (11 * k + 10)) 44 then k60 ((up S2 336 0 (11 * k + 3) (if E (34 + 11 * k + 4) - pPri Z.1 k c = 0 ∧ E (34 + 11 * k + 6) - pInt Z.1 k c = 0 then 2 else 1)).1 336 0 (11 * k + 10)) else none)) = k60 (if E (34 + 11 * k + 4) - pPri Z.1 k c = 0 ∧ E (34 + 11 * k + 6) - pInt Z.1 k c = 0 then -5 else E (34 + 11 * k + 10)) := by
        rw [if_pos (of_eq_true c10i), up_eq, up_nl (show 11 * k + 10 ≠ 11 * k + 3 by omega), O10]
        by_cases d : E (34 + 11 * k + 4) - pPri Z.1 k c = 0 ∧ E (34 + 11 * k + 6) - pInt Z.1 k c = 0
        · rw [if_pos d, if_pos rfl, if_pos d]
        · rw [if_neg d, if_neg (by decide), if_neg d]
      rw [e60, hk60]
      clear e60 hk60 k60
      show Ok (Je s) (if _ then _ else _)
      rw [if_pos (of_eq_true c10i)]
      refine ok_lt fun S3 e3 => ?_
      have Q3 : Lr S3 (lpM E k (pInt Z.1 k c) (pPri Z.1 k c)) := by
        rw [e3]
        exact (Q2.pu (rlw hk (by decide))).pu (rlw hk (by decide))
      have R3 : RCl S3 Z := by rw [e3]; exact RCl_up (RCl_up R2 (by omega)) (by omega)
      have h31 : S3.1 304 0 1 = 4 := by rw [e3, up_ne (by decide), up_ne (by decide)]; exact h21
      clear e3 Q2 R2 h21 O6 O4 O10 S2
      have hg : ∀ n, n < nc Z.1 → 0 ≤ (gi Z.1 k c n + gp Z.1 k c n).toInt ∧ (gi Z.1 k c n + gp Z.1 k c n).toInt ≤ 2000000 := fun n hn' => by
        obtain ⟨u1, u2, u3, u4, -⟩ := g_b hI.1 q (n := n) (by omega)
        omega
      have hf := fitL hs hL hb hg
      have hG := e_pay hI (by omega) hkb hp ho hf
      have eM : lpM E k (pInt Z.1 k c) (pPri Z.1 k c) = pyM Z.1 k c := by
        refine (lpM_eq ((eE 3 (by omega)).trans c3) fun z => ?_).trans (by rw [hE]; rfl)
        have k7 := hLo.2.2.2.2.2.2.2.1
        have k4 := hLo.2.2.2.2.1
        have q2 := q.p2
        have q0 := q.p0
        have e4 : (E (34 + 11 * k + 4) - pPri Z.1 k c).toInt = (E (34 + 11 * k + 4)).toInt - (pPri Z.1 k c).toInt := by
          rw [tsub] <;> rw [eE 4 (by omega)] <;> omega
        have hb7 := b7_b (E := E) (l := k) (p := pPri Z.1 k c) q0 (by rw [eE 7 (by omega), eE 4 (by omega)]; exact k7) e4 (by rw [eE 4 (by omega)]; exact q2)
        rw [z, z0] at hb7
        rw [teq, z0]
        omega
      rw [eM] at Q3
      refine ok_k hG R3 fun τa ra sa => ?_
      have e4 : τa.1 336 0 (11 * k + 4) = Z.1 (34 + 11 * k + 4) - pPri Z.1 k c := by
        rw [sa 336 rfl]
        refine (Q3 _ _ _ (rlw hk (by decide))).trans ?_
        unfold pyM
        rw [tkM_4, ← hE, eE 4 (by omega)]
      rw [if_pos (of_eq_true c4i), e4, if_pos rfl]
      have hcs := cashL hs hL hI.1.2.2.2.2.1 hb hg
      refine ok_r (je_k hI hG.1 (by omega) ra sa Q3 (fun _ _ _ _ _ _ => rfl) ⟨hG.1.1, ?_, ?_, ?_⟩ h31 (fun i hi => ?_) (hR.one (k := k) (fun l w hl hlk hw => pyM_oth sv.2 (by omega) (by omega) hlk) fun hz => ?_))
      · unfold nc; rw [pyM_low sv.2 (by omega) (by omega), coJ_123.2.2]; exact hn
      · rw [pyM_low sv.2 (by omega) (by omega), coJ_123.1]; exact hm1
      · rw [pyM_low sv.2 (by omega) (by omega), coJ_123.2.1]; exact hm2
      · rw [pyM_low sv.2 (by omega) (by omega)]; exact hcs i hi
      · unfold pyM at hz ⊢
        exact tkM_rn hz
  -- what is told: all that is owed, or up to 500 coins
  refine ok_jn fun k67 hk67 => ?_
  have B' : Ok (Je s) k67 := by
    rw [hk67, lowE (n := 500) (by decide)]
    obtain ⟨y, hy, ey⟩ := lw_nI (v := x >>> ((6 : Int32) &&& 31)) (n := 500) (N := 500) rfl (by decide) (by decide)
    rw [ey]
    have e1 : ((1 : Int32) + nI y).toInt = 1 + y := by rw [tadd] <;> rw [nI_toInt (by omega), z1] <;> omega
    exact H _ (by rw [e1]; omega) (by rw [e1]; omega)
  by_cases c1 : lw (x >>> ((3 : Int32) &&& 31)) 5 = 0
  rotate_left
  · rw [if_neg c1]; exact B'
  rw [if_pos c1, if_pos (of_eq_true c3i), L3']
  by_cases c3 : Z.1 (34 + 11 * k + 3) = 1
  rotate_left
  · rw [if_neg c3]; exact B'
  rw [if_pos c3, bdE (e_torep hI hr hkb c3)]
  have kP := hLo.2.2.2.2.1
  have kD : 0 ≤ (Z.1 (34 + 11 * k + 6)).toInt ∧ (Z.1 (34 + 11 * k + 6)).toInt ≤ 1200000 := by
    have := hLo.2.2.2.2.2.2.1
    have := hI.1.2.1
    omega
  have e := rp_c kP kD (feef sv.2)
  have hrn := hR k hk c3
  have hW : ¬ (Z.1 (34 + 11 * k + 4)).toInt + (Z.1 (34 + 11 * k + 6)).toInt = 0 := fun z => hrn ⟨by rw [teq, z0]; omega, by rw [teq, z0]; omega⟩
  unfold rpI at e
  rw [if_neg hW] at e
  have hfe : 5 ≤ (feeI (svc Z.1 k)).toInt ∧ (feeI (svc Z.1 k)).toInt ≤ 40 := feeb _
  refine H _ ?_ ?_ <;> rw [e]
  · rcases feef sv.2 with h | h | h | h <;> rw [h] <;> omega
  · rcases feef sv.2 with h | h | h | h <;> rw [h] <;> omega
