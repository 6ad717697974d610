/-! THE LAW FUNDS -/
theorem fe_at {K : Int} {m : Mt} {w k : Nat} {c : Int32} (h : InvM K m) (hL : L3 m) (hw : w < 3) (hk : k < 4) (hc1 : 1 ≤ c.toInt) (hc2 : c.toInt ≤ 99999) : fe m (nI w) (nI k) c = if ¬ m (34 + 11 * k + 3) = 0 then -4 else if msn m k < c then -4 else if ¬ c ≤ m (10 + 3 * w) then -4 else 0 := by
  have hc := hL.1
  have z1 : (1 : Int32).toInt = 1 := rfl
  have z9 : (99999 : Int32).toInt = 99999 := rfl
  have hi := isI_nI hc (show w < na m by rw [hL.a]; exact hw)
  have hl := isL_nI hc (show k < nb m by rw [hL.b]; exact hk)
  unfold fe
  rw [if_neg (not_not_intro hi), if_neg (not_not_intro hl), if_neg (by rw [tlt, z1]; omega), if_neg (not_not_intro (by rw [tle, z9]; exact hc2)), nI_clamp (by omega), nI_clamp (by omega)]
  have h60 : ¬ nc m = 60 := by have := hL.2.1; omega
  by_cases a : ¬ m (34 + 11 * k + 3) = 0
  · rw [if_pos a, if_pos a]
  · rw [if_neg a, if_neg a]
    by_cases b : msn m k < c
    · rw [if_pos b, if_pos b]
    · rw [if_neg b, if_neg b]
      by_cases d : ¬ c ≤ m (10 + 3 * w)
      · rw [if_pos d, if_pos d]
      · rw [if_neg d, if_neg d, if_neg h60]
theorem fe_z {m : Mt} {w k : Nat} (hL : L3 m) (hw : w < 3) (hk : k < 4) : fe m (nI w) (nI k) 0 = -2 := by
  have hc := hL.1
  have hi := isI_nI hc (show w < na m by rw [hL.a]; exact hw)
  have hl := isL_nI hc (show k < nb m by rw [hL.b]; exact hk)
  unfold fe
  rw [if_neg (not_not_intro hi), if_neg (not_not_intro hl), if_pos (by decide)]
theorem fe_u {m : Mt} {a c : Int32} (hL : L3 m) : fe m 3 a c = -1 := by
  unfold fe
  rw [if_pos (notI3 hL)]
theorem lfund {s : Nat} {σ : Sto} {Z : Zt} (hs : s ≤ 60) (hJ : Jv s σ Z) (x : Int32) : Ok (Je s) (dc_L_isFunded x σ) := by
  obtain ⟨hr, hI, hLr, hL, h1, hb⟩ := id hJ
  obtain ⟨hc, hn, hm1, hm2⟩ := id hL
  obtain ⟨h3, hn'⟩ := hc.c
  have ha := hL.a
  have hbn := hL.b
  have z0 : (0 : Int32).toInt = 0 := rfl
  have g2 : σ.1 304 0 2 = nI (nc Z.1) := (hLr _ _ _ rg2).trans h3
  unfold dc_L_isFunded
  rw [if_pos (of_eq_true i91), cl_1, h1, lowE (n := 4) (by decide), lowE (n := 3) (by decide), lowE (n := 2) (by decide)]
  obtain ⟨k, hk, ek⟩ := lw_nI (v := x) (n := 4) (N := 4) rfl (by decide) (by decide)
  obtain ⟨w, hw, ew⟩ := lw_nI (v := x >>> ((3 : Int32) &&& 31)) (n := 3) (N := 3) rfl (by decide) (by decide)
  obtain ⟨t, ht, et⟩ := lw_nI (v := x >>> ((5 : Int32) &&& 31)) (n := 2) (N := 2) rfl (by decide) (by decide)
  rw [ek, ew, et]
  have hkb : k < nb Z.1 := by omega
  have hwa : w < na Z.1 := by omega
  have hLo := hI.1.2.2.2.2.2.1 k hkb
  have L0 := hLr _ _ _ (rl0 hk)
  have L2 := hLr _ _ _ (rlw (w := 2) hk (by decide))
  have L3' := hLr _ _ _ (rlw (w := 3) hk (by decide))
  have I0 := hLr _ _ _ (ri0 hw)
  have Pm := lpr_eq hLr hc hn (nI k) (-1) 2 (Or.inl ⟨by decide, rfl⟩)
  have ps := pr_si hI.1 (nI k)
  simp (disch := omega) only [↓reduceIte, ↓bdE Pm, xm11, inT44, clN, L0]
  rw [lowE (n := 2) (by decide)]
  refine ok_jn fun kk hkk => ?_
  have H : ∀ c : Int32, 1 ≤ c.toInt → c.toInt ≤ 99999 → Ok (Je s) (kk c σ) := fun c hc1 hc2 => by
    have hfe := fe_at hI.1 hL hw hk hc1 hc2
    rw [hkk]
    clear hkk kk
    -- a refused call
    have F : ¬ fe Z.1 (nI w) (nI k) c = 0 → fe Z.1 (nI w) (nI k) c = -4 → Ok (Je s) (jn (fun (v14 : Int32) => (bd (dc_X9_fund (nI w) (nI k) v14 c σ) fun r16 σ17 => (if r16 = (-4 : Int32) then jn (fun (v18 : Int32) => (bd (dc_X9_fund (nI w) (nI k) v18 (0 : Int32) σ17) fun r20 σ21 => (if r20 = (-2 : Int32) then jn (fun (v22 : Int32) => (bd (dc_X9_fund (3 : Int32) (nI k) v22 (0 : Int32) σ21) fun r24 σ25 => (if r24 = (-1 : Int32) then some ((1 : Int32), σ25) else some ((0 : Int32), σ25)))) (fun k23 => (if nI t = (1 : Int32) then k23 (1 : Int32) else k23 (0 : Int32))) else some ((0 : Int32), σ21)))) (fun k19 => (if nI t = (1 : Int32) then k19 (1 : Int32) else k19 (0 : Int32))) else some ((0 : Int32), σ17)))) (fun k15 => (if nI t = (1 : Int32) then k15 (1 : Int32) else k15 (0 : Int32)))) := fun f1 f2 => by
      refine ok_j01 fun v => ok_q (e_fund0 hI f1) hr fun τ1 r1 s1 => ?_
      rw [f2, if_pos rfl]
      refine ok_j01 fun v => ok_q (e_fund0 hI (by rw [fe_z hL hw hk]; decide)) r1 fun τ2 r2 s2 => ?_
      rw [fe_z hL hw hk, if_pos rfl]
      refine ok_j01 fun v => ok_q (e_fund0 hI (by rw [fe_u hL]; decide)) r2 fun τ3 r3 s3 => ?_
      rw [fe_u hL, if_pos rfl]
      exact ok_r (je_q hJ r3 (s1.trans (s2.trans s3)))
    simp (disch := omega) only [xp3, inT44, if_true, clN, L3']
    refine ok_jn fun k10 hk10 => ?_
    by_cases c3 : 0 < Z.1 (34 + 11 * k + 3)
    · rw [if_pos c3, hk10]
      have n0 : ¬ Z.1 (34 + 11 * k + 3) = 0 := fun z => by rw [z] at c3; exact absurd c3 (by decide)
      rw [if_pos n0] at hfe
      exact F (by rw [hfe]; decide) hfe
    rw [if_neg c3]
    have st0 : Z.1 (34 + 11 * k + 3) = 0 := by
      have := hLo.2.2.2.1
      rw [tlt, z0] at c3
      rw [teq, z0]
      omega
    rw [if_neg (not_not_intro st0)] at hfe
    have em : msn Z.1 k = Z.1 (34 + 11 * k) - pr Z.1 (nI k) 2 := if_pos st0
    rw [em] at hfe
    by_cases c4 : Z.1 (34 + 11 * k) - pr Z.1 (nI k) 2 < c
    · rw [if_pos c4, hk10]
      rw [if_pos c4] at hfe
      exact F (by rw [hfe]; decide) hfe
    rw [if_neg c4]
    rw [if_neg c4] at hfe
    rw [xm3, if_pos (of_eq_true (inT9 (by omega))), clN (by omega), I0]
    by_cases c5 : c ≤ Z.1 (10 + 3 * w)
    rotate_left
    · rw [if_neg c5, hk10]
      rw [if_pos c5] at hfe
      exact F (by rw [hfe]; decide) hfe
    rw [if_pos c5]
    rw [if_neg (not_not_intro c5)] at hfe
    clear hk10 F
    rw [if_pos (of_eq_true i92), cl_2, g2]
    by_cases c10 : nc Z.1 = 10
    · rw [if_pos (by rw [c10]; rfl), bdE (e_loan_9 hI hr hkb), em, if_pos rfl]
      exact ok_r (je_q hJ hr (SameM.refl σ))
    rw [if_neg (by rw [show (10 : Int32) = nI 10 from rfl, nI_eq (by omega) (by omega)]; exact c10)]
    have hn10 : nc Z.1 < 10 := by omega
    have hf : FeOk Z.1 w k c := ⟨hwa, hkb, ⟨hc1, hc2⟩, st0, by
      have := msn_int hI.1 hkb st0
      rw [em] at this
      rw [tlt, this] at c4
      omega, (tle _ _).mp c5, by omega⟩
    have t01 : nI t = 0 ∨ nI t = 1 := by
      rcases (show t = 0 ∨ t = 1 by omega) with rfl | rfl
      · exact Or.inl rfl
      · exact Or.inr rfl
    have hN : InvM (200000 * s) (adn Z.1 w k (nI t) c) := InvM_adn hI.1 hf t01
    have en := nc_nt (k := nI t) hc hf.2.2.2.2.2.2
    have hlow : ∀ j, j < 34 → adn Z.1 w k (nI t) c j = nt Z.1 w k (nI t) c j := fun j hj => by
      unfold adn
      by_cases z : msn (nt Z.1 w k (nI t) c) k = 0
      · rw [if_pos z]
        unfold stt
        rw [upd_ne (by omega), upd_ne (by omega), upd_ne (by omega)]
      · rw [if_neg z]
    have hL' : L3 (adn Z.1 w k (nI t) c) := by
      refine ⟨hN.1, ?_, ?_, ?_⟩
      · have : nc (adn Z.1 w k (nI t) c) = nc (nt Z.1 w k (nI t) c) := by unfold nc; rw [hlow 3 (by omega)]
        omega
      · rw [hlow 1 (by omega), nt_out (by omega) (by omega) (by omega)]; exact hm1
      · rw [hlow 2 (by omega), nt_out (by omega) (by omega) (by omega)]; exact hm2
    have hb' : ∀ i, i < 3 → (adn Z.1 w k (nI t) c (10 + 3 * i)).toInt ≤ 4000 + 20000000 * (s + 1) := fun i hi => by
      rw [hlow _ (by omega)]
      have hbi := hb i hi
      by_cases e : i = w
      · rw [e, nt_cash]
        have q1 := (tle _ _).mp c5
        have q2 := hI.1.2.2.2.2.1 w (by omega)
        rw [e] at hbi
        rw [tsub] <;> omega
      · rw [nt_out (by omega) (by omega) (by omega)]; omega
    simp (disch := omega) only [↓reduceIte, ↓lt_eq, i92, cl_2, xm6, xm3, xp1, xp2, xp3, xp4, xp5, inT60, inT10, inT9, clN, up_ne, up_nl, g2, I0]
    sorry
  have hmi := msn_int hI.1 hkb
  sorry
