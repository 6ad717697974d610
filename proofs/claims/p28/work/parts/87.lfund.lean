/-! THE LAW FUNDS -/
theorem fe_at {K : Int} {m : Mt} {w k : Nat} {c : Int32} (h : InvM K m) (hL : L3 m) (hw : w < 3) (hk : k < 4) (hc1 : 1 ≤ c.toInt) (hc2 : c.toInt ≤ 99999) : fe m (nI w) (nI k) c = if ¬ m (34 + 11 * k + 3) = 0 then -4 else if msn m k < c then -4 else if ¬ c ≤ m (10 + 3 * w) then -4 else 0 := by
  have hc := hL.1
  have z1 : (1 : Int32).toInt = 1 := rfl
  have z9 : (99999 : Int32).toInt = 99999 := rfl
  have hi := isI_nI hc (show w < na m by rw [hL.a]; exact hw)
  have hl := isL_nI hc (show k < nb m by rw [hL.b]; exact hk)
  unfold fe
  rw [if_neg (not_not_intro hi), if_neg (not_not_intro hl), if_neg (by rw [tlt, z1]; omega), if_neg (not_not_intro (by rw [tle, z9]; exact hc2)), nI_clamp (by omega), nI_clamp (by omega)]
  have h60 : ¬ nc m = 60 := by have := hL.2.1; omega
  by_cases a : ¬ m (34 + 11 * k + 3) = 0
  · rw [if_pos a, if_pos a]
  · rw [if_neg a, if_neg a]
    by_cases b : msn m k < c
    · rw [if_pos b, if_pos b]
    · rw [if_neg b, if_neg b]
      by_cases d : ¬ c ≤ m (10 + 3 * w)
      · rw [if_pos d, if_pos d]
      · rw [if_neg d, if_neg d, if_neg h60]
theorem fe_z {m : Mt} {w k : Nat} (hL : L3 m) (hw : w < 3) (hk : k < 4) : fe m (nI w) (nI k) 0 = -2 := by
  have hc := hL.1
  have hi := isI_nI hc (show w < na m by rw [hL.a]; exact hw)
  have hl := isL_nI hc (show k < nb m by rw [hL.b]; exact hk)
  unfold fe
  rw [if_neg (not_not_intro hi), if_neg (not_not_intro hl), if_pos (by decide)]
theorem fe_u {m : Mt} {a c : Int32} (hL : L3 m) : fe m 3 a c = -1 := by
  unfold fe
  rw [if_pos (notI3 hL)]
theorem lfund {s : Nat} {σ : Sto} {Z : Zt} (hs : s ≤ 60) (hJ : Jv s σ Z) (x : Int32) : Ok (Je s) (dc_L_isFunded x σ) := by
  obtain ⟨hr, hI, hLr, hL, h1, hb, hR⟩ := id hJ
  obtain ⟨hc, hn, hm1, hm2⟩ := id hL
  obtain ⟨h3, hn'⟩ := hc.c
  have ha := hL.a
  have hbn := hL.b
  have z0 : (0 : Int32).toInt = 0 := rfl
  have g2 : σ.1 304 0 2 = nI (nc Z.1) := (hLr _ _ _ rg2).trans h3
  unfold dc_L_isFunded
  rw [if_pos (of_eq_true i91), cl_1, h1, lowE (n := 4) (by decide), lowE (n := 3) (by decide), lowE (n := 2) (by decide)]
  obtain ⟨k, hk, ek⟩ := lw_nI (v := x) (n := 4) (N := 4) rfl (by decide) (by decide)
  obtain ⟨w, hw, ew⟩ := lw_nI (v := x >>> ((3 : Int32) &&& 31)) (n := 3) (N := 3) rfl (by decide) (by decide)
  obtain ⟨t, ht, et⟩ := lw_nI (v := x >>> ((5 : Int32) &&& 31)) (n := 2) (N := 2) rfl (by decide) (by decide)
  rw [ek, ew, et]
  have hkb : k < nb Z.1 := by omega
  have hwa : w < na Z.1 := by omega
  have hLo := hI.1.2.2.2.2.2.1 k hkb
  have L0 := hLr _ _ _ (rl0 hk)
  have L2 := hLr _ _ _ (rlw (w := 2) hk (by decide))
  have L3' := hLr _ _ _ (rlw (w := 3) hk (by decide))
  have I0 := hLr _ _ _ (ri0 hw)
  have Pm := lpr_eq hLr hc hn (nI k) (-1) 2 (Or.inl ⟨by decide, rfl⟩)
  have ps := pr_si hI.1 (nI k)
  rw [xm11, if_pos (of_eq_true (inT44 (by omega))), bdE Pm, lowE (n := 2) (by decide), clN (by omega), L0]
  refine ok_jn fun kk hkk => ?_
  have H : ∀ c : Int32, 1 ≤ c.toInt → c.toInt ≤ 99999 → Ok (Je s) (kk c σ) := fun c hc1 hc2 => by
    have hfe := fe_at hI.1 hL hw hk hc1 hc2
    rw [hkk]
    clear hkk kk
    -- a refused call
    have F : ¬ fe Z.1 (nI w) (nI k) c = 0 → fe Z.1 (nI w) (nI k) c = -4 → Ok (Je s) (jn (fun (v14 : Int32) => (bd (dc_X9_fund (nI w) (nI k) v14 c σ) fun r16 σ17 => (if r16 = (-4 : Int32) then jn (fun (v18 : Int32) => (bd (dc_X9_fund (nI w) (nI k) v18 (0 : Int32) σ17) fun r20 σ21 => (if r20 = (-2 : Int32) then jn (fun (v22 : Int32) => (bd (dc_X9_fund (3 : Int32) (nI k) v22 (0 : Int32) σ21) fun r24 σ25 => (if r24 = (-1 : Int32) then some ((1 : Int32), σ25) else some ((0 : Int32), σ25)))) (fun k23 => (if nI t = (1 : Int32) then k23 (1 : Int32) else k23 (0 : Int32))) else some ((0 : Int32), σ21)))) (fun k19 => (if nI t = (1 : Int32) then k19 (1 : Int32) else k19 (0 : Int32))) else some ((0 : Int32), σ17)))) (fun k15 => (if nI t = (1 : Int32) then k15 (1 : Int32) else k15 (0 : Int32)))) := fun f1 f2 => by
      refine ok_j01 fun v => ok_q (e_fund0 hI f1) hr fun τ1 r1 s1 => ?_
      rw [f2, if_pos rfl]
      refine ok_j01 fun v => ok_q (e_fund0 hI (by rw [fe_z hL hw hk]; decide)) r1 fun τ2 r2 s2 => ?_
      rw [fe_z hL hw hk, if_pos rfl]
      refine ok_j01 fun v => ok_q (e_fund0 hI (by rw [fe_u hL]; decide)) r2 fun τ3 r3 s3 => ?_
      rw [fe_u hL, if_pos rfl]
      exact ok_r (je_q hJ r3 (s1.trans (s2.trans s3)))
    show Ok (Je s) (if _ then _ else _)
    rw [xp3, if_pos (of_eq_true (inT44 (by omega))), clN (by omega), L3']
    refine ok_jn fun k10 hk10 => ?_
    by_cases c3 : 0 < Z.1 (34 + 11 * k + 3)
    · rw [if_pos c3, hk10]
      have n0 : ¬ Z.1 (34 + 11 * k + 3) = 0 := fun z => by rw [z] at c3; exact absurd c3 (by decide)
      rw [if_pos n0] at hfe
      exact F (by rw [hfe]; decide) hfe
    rw [if_neg c3]
    have st0 : Z.1 (34 + 11 * k + 3) = 0 := by
      have := hLo.2.2.2.1
      rw [tlt, z0] at c3
      rw [teq, z0]
      omega
    rw [if_neg (not_not_intro st0)] at hfe
    have em : msn Z.1 k = Z.1 (34 + 11 * k) - pr Z.1 (nI k) 2 := if_pos st0
    rw [em] at hfe
    by_cases c4 : Z.1 (34 + 11 * k) - pr Z.1 (nI k) 2 < c
    · rw [if_pos c4, hk10]
      rw [if_pos c4] at hfe
      exact F (by rw [hfe]; decide) hfe
    rw [if_neg c4]
    rw [if_neg c4] at hfe
    rw [xm3, if_pos (of_eq_true (inT9 (by omega))), clN (by omega), I0]
    by_cases c5 : c ≤ Z.1 (10 + 3 * w)
    rotate_left
    · rw [if_neg c5, hk10]
      rw [if_pos c5] at hfe
      exact F (by rw [hfe]; decide) hfe
    rw [if_pos c5]
    rw [if_neg (not_not_intro c5)] at hfe
    clear hk10 F
    rw [if_pos (of_eq_true i92), cl_2, g2]
    by_cases c10 : nc Z.1 = 10
    · rw [if_pos (by rw [c10]; rfl), bdE (e_loan_9 hI hr hkb), em, if_pos rfl]
      exact ok_r (je_q hJ hr (SameM.refl σ))
    rw [if_neg (by rw [show (10 : Int32) = nI 10 from rfl, nI_eq (by omega) (by omega)]; exact c10)]
    have hn10 : nc Z.1 < 10 := by omega
    have hf : FeOk Z.1 w k c := ⟨hwa, hkb, ⟨hc1, hc2⟩, st0, by
      have := msn_int hI.1 hkb st0
      rw [em] at this
      rw [tlt, this] at c4
      omega, (tle _ _).mp c5, by omega⟩
    have t01 : nI t = 0 ∨ nI t = 1 := by
      rcases (show t = 0 ∨ t = 1 by omega) with rfl | rfl
      · exact Or.inl rfl
      · exact Or.inr rfl
    have hN : InvM (200000 * s) (adn Z.1 w k (nI t) c) := InvM_adn hI.1 hf t01
    have en := nc_nt (i := w) (l := k) (k := nI t) (c := c) hc hf.2.2.2.2.2.2
    have hlow : ∀ j, j < 34 → adn Z.1 w k (nI t) c j = nt Z.1 w k (nI t) c j := fun j hj => by
      unfold adn
      by_cases z : msn (nt Z.1 w k (nI t) c) k = 0
      · rw [if_pos z]
        unfold stt
        rw [upd_ne (by omega), upd_ne (by omega), upd_ne (by omega)]
      · rw [if_neg z]
    have hL' : L3 (adn Z.1 w k (nI t) c) := by
      refine ⟨hN.1, ?_, ?_, ?_⟩
      · have : nc (adn Z.1 w k (nI t) c) = nc (nt Z.1 w k (nI t) c) := by unfold nc; rw [hlow 3 (by omega)]
        omega
      · rw [hlow 1 (by omega), nt_out (by omega) (by omega) (by omega)]; exact hm1
      · rw [hlow 2 (by omega), nt_out (by omega) (by omega) (by omega)]; exact hm2
    have hb' : ∀ i, i < 3 → (adn Z.1 w k (nI t) c (10 + 3 * i)).toInt ≤ 4000 + 20000000 * (s + 1) := fun i hi => by
      rw [hlow _ (by omega)]
      have hbi := hb i hi
      by_cases e : i = w
      · rw [e, nt_cash]
        have q1 := (tle _ _).mp c5
        have q2 := hI.1.2.2.2.2.1 w (by omega)
        rw [e] at hbi
        rw [tsub] <;> omega
      · rw [nt_out (by omega) (by omega) (by omega)]; omega
    have hR' : Rn (adn Z.1 w k (nI t) c) := by
      have hRn : Rn (nt Z.1 w k (nI t) c) := hR.cg fun l v hl hv => nt_out (by omega) (by omega) (by omega)
      unfold adn
      by_cases z : msn (nt Z.1 w k (nI t) c) k = 0
      · rw [if_pos z]
        have hst : ∀ j, j ≠ 34 + 11 * k + 3 → j ≠ 34 + 11 * k + 4 → j ≠ 34 + 11 * k + 5 → stt (nt Z.1 w k (nI t) c) k j = nt Z.1 w k (nI t) c j := fun j a b d => by
          unfold stt
          rw [upd_ne d, upd_ne b, upd_ne a]
        refine hRn.one (k := k) (fun l v hl hlk hv => hst _ (by omega) (by omega) (by omega)) fun _ q => ?_
        have e4 : stt (nt Z.1 w k (nI t) c) k (34 + 11 * k + 4) = Z.1 (34 + 11 * k) := by
          unfold stt
          rw [upd_ne (by omega), upd_eq]
          exact (nt_hi hc hf).2.1
        have q1 := q.1
        rw [e4] at q1
        have hl0 := hLo.1
        rw [q1] at hl0
        exact absurd hl0.1 (by decide)
      · rw [if_neg z]; exact hRn
    simp (disch := omega) only [xm6, xm3, xp1, xp2, xp3, xp4, xp5, inT60, inT9, inT44, i92, cl_2, clN, if_true]
    refine ok_lt fun S1 e1 => ok_lt fun S2 e2 => ok_lt fun S3 e3 => ?_
    have f1 : ∀ f j l, f ≠ 352 → S3.1 f j l = σ.1 f j l := fun f j l hf => by
      rw [e3, up_ne hf, up_ne hf, e2, up_ne hf, up_ne hf, e1, up_ne hf, up_ne hf]
    have E3 : Lr S3 (upd (upd (upd (upd (upd (upd Z.1 (144 + 7 * nc Z.1) (nI w)) (144 + 7 * nc Z.1 + 1) (nI k)) (144 + 7 * nc Z.1 + 2) (nI t)) (144 + 7 * nc Z.1 + 3) c) (144 + 7 * nc Z.1 + 5) 0) (144 + 7 * nc Z.1 + 6) 0) := by
      rw [e3, e2, e1]
      exact (((((hLr.pu (rn0 hn10)).pu (rn1 hn10)).pu (rn2 hn10)).pu (rn3 hn10)).pu (rn4 hn10)).pu (rn5 hn10)
    have R3 : RCl S3 Z := by
      rw [e3, e2, e1]
      exact RCl_up (RCl_up (RCl_up (RCl_up (RCl_up (RCl_up hr (by omega)) (by omega)) (by omega)) (by omega)) (by omega)) (by omega)
    have g3 : S3.1 304 0 2 = nI (nc Z.1) := (f1 304 0 2 (by decide)).trans g2
    simp (disch := omega) only [g3, up_ne, inT10, clN, if_true, xp1]
    refine ok_lt fun S4 e4 => ?_
    have E4 : Lr S4 (upd (upd (upd (upd (upd (upd (upd (upd Z.1 (144 + 7 * nc Z.1) (nI w)) (144 + 7 * nc Z.1 + 1) (nI k)) (144 + 7 * nc Z.1 + 2) (nI t)) (144 + 7 * nc Z.1 + 3) c) (144 + 7 * nc Z.1 + 5) 0) (144 + 7 * nc Z.1 + 6) 0) (144 + 7 * nc Z.1 + 4) c) 3 (nI (nc Z.1 + 1))) := by
      rw [e4]
      exact (E3.pu (rc hn10)).pu rg2
    rw [upd_comm (a := 144 + 7 * nc Z.1 + 6) (b := 144 + 7 * nc Z.1 + 4) (by omega), upd_comm (a := 144 + 7 * nc Z.1 + 5) (b := 144 + 7 * nc Z.1 + 4) (by omega)] at E4
    have R4 : RCl S4 Z := by
      rw [e4]
      exact RCl_up (RCl_up R3 (by omega)) (by omega)
    have h14 : S4.1 304 0 1 = 4 := by rw [e4, up_nl (by decide), up_ne (by decide), f1 304 0 1 (by decide)]; exact h1
    have I4 : S4.1 320 0 (3 * w) = Z.1 (10 + 3 * w) := by rw [e4, up_ne (by decide), up_ne (by decide), f1 320 0 _ (by decide)]; exact I0
    have L04 : S4.1 336 0 (11 * k) = Z.1 (34 + 11 * k) := by rw [e4, up_ne (by decide), up_ne (by decide), f1 336 0 _ (by decide)]; exact L0
    have L24 : S4.1 336 0 (11 * k + 2) = Z.1 (34 + 11 * k + 2) := by rw [e4, up_ne (by decide), up_ne (by decide), f1 336 0 _ (by decide)]; exact L2
    have E5 : Lr (up S4 320 0 (3 * w) (Z.1 (10 + 3 * w) - c)) (nt Z.1 w k (nI t) c) := by
      have := E4.pu (v := Z.1 (10 + 3 * w) - c) (ri0 hw)
      unfold nt
      rw [h3, xp1]
      exact this
    have R5 : RCl (up S4 320 0 (3 * w) (Z.1 (10 + 3 * w) - c)) Z := RCl_up R4 (by omega)
    have h15 : (up S4 320 0 (3 * w) (Z.1 (10 + 3 * w) - c)).1 304 0 1 = 4 := by rw [up_ne (by decide)]; exact h14
    clear E3 R3 g3 f1 e4 e3 e2 e1 E4
    refine ok_jn fun k43 hk43 => ?_
    have G : ∀ S, RCl S Z → Lr S (adn Z.1 w k (nI t) c) → S.1 304 0 1 = 4 → Ok (Je s) (k43 S) := fun S hS1 hS2 hS3 => by
      rw [hk43]
      refine ok_jn fun k45 hk45 => ?_
      have Hv : ∀ v, nI t = (if v = 0 then 0 else 1) → Ok (Je s) (k45 v) := fun v hv => by
        rw [hk45]
        refine ok_k (e_fund hI hv t01 hfe hf) hS1 fun τ1 r1 s1 => ?_
        rw [msn_nt2 hc hf, if_pos rfl]
        exact ok_r (je_k hI hN (by omega) r1 s1 hS2 (fun _ _ _ _ _ _ => rfl) hL' hS3 hb' hR')
      by_cases e : nI t = 1
      · rw [if_pos e]; exact Hv 1 (by rw [e]; rfl)
      · rw [if_neg e]
        rcases t01 with q | q
        · exact Hv 0 (by rw [q]; rfl)
        · exact absurd q e
    clear hk43
    have hnt := nt_hi (k := nI t) hc hf
    by_cases cz : Z.1 (34 + 11 * k) - pr Z.1 (nI k) 2 = c
    · have hz : msn (nt Z.1 w k (nI t) c) k = 0 := by rw [msn_nt2 hc hf, cz]; exact Int32.sub_self _
      have eA : adn Z.1 w k (nI t) c = stt (nt Z.1 w k (nI t) c) k := if_pos hz
      rw [eA] at G
      have hl0 := hLo.1
      have hq := upq (a := Z.1 (34 + 11 * k)) (t := Z.1 (34 + 11 * k + 2)) ⟨by omega, by omega⟩ hLo.2.2.1
      have z2 : ¬ Z.1 (34 + 11 * k + 2) = 0 := fun z => by have := hLo.2.2.1.1; rw [z] at this; exact absurd this (by decide)
      have E6 : ∀ q, q = (Z.1 (34 + 11 * k) + Z.1 (34 + 11 * k + 2) - 1) / Z.1 (34 + 11 * k + 2) → Ok (Je s) (k43 (up (up (up (up S4 320 0 (3 * w) (Z.1 (10 + 3 * w) - c)) 336 0 (11 * k + 3) 1) 336 0 (11 * k + 4) (Z.1 (34 + 11 * k))) 336 0 (11 * k + 5) q)) := fun q hq => by
        refine G _ (RCl_up (RCl_up (RCl_up R5 (by omega)) (by omega)) (by omega)) ?_ (by rw [up_ne (by decide), up_ne (by decide), up_ne (by decide)]; exact h15)
        unfold stt
        rw [hnt.2.1, hnt.2.2.1, ← hq]
        exact ((E5.pu (rlw hk (by decide))).pu (rlw hk (by decide))).pu (rlw hk (by decide))
      rw [if_pos cz]
      by_cases d : Z.1 (34 + 11 * k) - Z.1 (34 + 11 * k) / Z.1 (34 + 11 * k + 2) * Z.1 (34 + 11 * k + 2) ≤ 0
      · rw [if_pos d] at hq
        have := E6 _ hq.symm
        simp (disch := omega) only [↓reduceIte, ↓lt_eq, I4, up_ne, up_nl, L04, L24, z2, not_false_eq_true, d]
        exact this
      · rw [if_neg d] at hq
        have := E6 _ hq.symm
        simp (disch := omega) only [↓reduceIte, ↓lt_eq, I4, up_ne, up_nl, L04, L24, z2, not_false_eq_true, d]
        exact this
    · have hz : ¬ msn (nt Z.1 w k (nI t) c) k = 0 := by
        rw [msn_nt2 hc hf]
        intro z
        apply cz
        have := congrArg (fun y => y + c) z
        simpa only [Int32.sub_add_cancel, Int32.zero_add] using this
      have eA : adn Z.1 w k (nI t) c = nt Z.1 w k (nI t) c := if_neg hz
      rw [eA] at G
      rw [if_neg cz, I4]
      exact G _ R5 E5 h15
  -- what is told: all that is missing, or up to 400 coins
  have B : ∀ v : Int32, Ok (Je s) (bd (dc_L_low v 400 σ) fun r67 σ68 => kk ((1 : Int32) + r67) σ68) := fun v => by
    rw [lowE (n := 400) (by decide)]
    obtain ⟨y, hy, ey⟩ := lw_nI (v := v) (n := 400) (N := 400) rfl (by decide) (by decide)
    rw [ey]
    have e1 : ((1 : Int32) + nI y).toInt = 1 + y := by rw [tadd] <;> rw [nI_toInt (by omega), show (1 : Int32).toInt = 1 from rfl] <;> omega
    exact H _ (by rw [e1]; omega) (by rw [e1]; omega)
  refine ok_jn fun k42 hk42 => ?_
  have B' : Ok (Je s) k42 := by rw [hk42]; exact B _
  by_cases c1 : lw (x >>> ((6 : Int32) &&& 31)) 2 = 0
  rotate_left
  · rw [if_neg c1]; exact B'
  rw [if_pos c1]
  by_cases c2 : Z.1 (34 + 11 * k) - pr Z.1 (nI k) 2 ≤ 0
  · rw [if_pos c2]; exact B'
  rw [if_neg c2, xp3, if_pos (of_eq_true (inT44 (by omega))), clN (by omega), L3']
  by_cases c3 : Z.1 (34 + 11 * k + 3) = 0
  rotate_left
  · rw [if_neg c3]; exact B'
  rw [if_pos c3]
  have hmi := msn_int hI.1 hkb c3
  rw [show msn Z.1 k = Z.1 (34 + 11 * k) - pr Z.1 (nI k) 2 from if_pos c3] at hmi
  rw [tle, z0] at c2
  have hl0 := hLo.1
  exact H _ (by omega) (by omega)
