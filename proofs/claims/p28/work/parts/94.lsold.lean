theorem sM_low {m : Mt} {l : Nat} {c : Int32} {j : Nat} (h1 : j < 34) (h2 : ¬ (10 ≤ j ∧ j < 34)) (h4 : j ≠ 4) : sM m l c j = m j := by
  unfold sM
  rw [endM_out (by omega), wo_out (by omega) (by omega), sB_x h4, coJ_out (by omega) (by omega)]
theorem sM_cash {m : Mt} {l : Nat} {c : Int32} {i : Nat} (hi : i < 3) : sM m l c (10 + 3 * i) = coJ m nil (hp m l c) (nc m) (10 + 3 * i) := by
  unfold sM
  rw [endM_out (by omega), wo_c (by omega), sB_x (by omega)]
theorem sM_oth {m : Mt} {l l' w : Nat} {c : Int32} (hl : l' < 10) (hw : w < 11) (hne : ¬ l' = l) : sM m l c (34 + 11 * l' + w) = m (34 + 11 * l' + w) := by
  unfold sM
  rw [endM_out (by omega), wo_out (by omega) (by omega), sB_x (by omega), coJ_loan hl hw]
/-- a note written off, as the law does it -/
theorem wo_law {E : Mt} {l j i : Nat} (hj : j < nc E) (hi : i < 8) (he : E (144 + 7 * j) = nI i) (hl : E (144 + 7 * j + 1) = nI l) : woJ E l (j + 1) = upd (upd (upd (woJ E l j) (144 + 7 * j + 6) (E (144 + 7 * j + 3))) (10 + 3 * i + 2) (woJ E l j (10 + 3 * i + 2) + E (144 + 7 * j + 3))) (144 + 7 * j + 3) 0 := by
  rw [upd_comm (a := 10 + 3 * i + 2) (b := 144 + 7 * j + 3) (by omega)]
  exact funext fun k => wo_step hj hi he hl k
theorem lsold {s : Nat} {σ : Sto} {Z : Zt} (hs : s ≤ 60) (hJ : Jv s σ Z) (x : Int32) : Ok (Je s) (dc_L_isSold x σ) := by
  obtain ⟨hr, hI, hLr, hL, h1, hb, hR⟩ := id hJ
  obtain ⟨hc, hn, hm1, hm2⟩ := id hL
  obtain ⟨h3, hn'⟩ := hc.c
  have ha := hL.a
  have hbn := hL.b
  have z0 : (0 : Int32).toInt = 0 := rfl
  have z1 : (1 : Int32).toInt = 1 := rfl
  have z9 : (99999 : Int32).toInt = 99999 := rfl
  have z36 : (36 : Int32).toInt = 36 := rfl
  have g2 : σ.1 304 0 2 = nI (nc Z.1) := (hLr _ _ _ rg2).trans h3
  have g3 := hLr _ _ _ rg3
  unfold dc_L_isSold
  rw [if_pos (of_eq_true i91), cl_1, h1, lowE (n := 4) (by decide), lowE (n := 2) (by decide)]
  obtain ⟨k, hk, ek⟩ := lw_nI (v := x) (n := 4) (N := 4) rfl (by decide) (by decide)
  rw [ek]
  have hkb : k < nb Z.1 := by omega
  have hLo := hI.1.2.2.2.2.2.1 k hkb
  have L3' := hLr _ _ _ (rlw (w := 3) hk (by decide))
  have L4 := hLr _ _ _ (rlw (w := 4) hk (by decide))
  have L6 := hLr _ _ _ (rlw (w := 6) hk (by decide))
  have L8 := hLr _ _ _ (rlw (w := 8) hk (by decide))
  have c3i : inb (nI (11 * k + 3)) 44 = True := inT44 (by omega)
  have c4i : inb (nI (11 * k + 4)) 44 = True := inT44 (by omega)
  have c5i : inb (nI (11 * k + 5)) 44 = True := inT44 (by omega)
  have c6i : inb (nI (11 * k + 6)) 44 = True := inT44 (by omega)
  have c7i : inb (nI (11 * k + 7)) 44 = True := inT44 (by omega)
  have c8i : inb (nI (11 * k + 8)) 44 = True := inT44 (by omega)
  have c10i : inb (nI (11 * k + 10)) 44 = True := inT44 (by omega)
  rw [xm11, xp3, xp4, xp5, xp6, xp7, xp8, xp10, cl_2, cl_3, clN (k := 11 * k + 3) (by omega), clN (k := 11 * k + 4) (by omega), clN (k := 11 * k + 5) (by omega), clN (k := 11 * k + 6) (by omega), clN (k := 11 * k + 7) (by omega), clN (k := 11 * k + 8) (by omega), clN (k := 11 * k + 10) (by omega)]
  refine ok_jn fun k6 hk6 => ?_
  -- the rest, at a price
  have H : ∀ v : Int32, v = 400 ∨ v = 20000 → Ok (Je s) (k6 v) := fun v hv => by
    have hv0 : 0 < v.toInt ∧ v.toInt ≤ 20000 := by rcases hv with rfl | rfl <;> decide
    rw [hk6]
    clear hk6 k6
    show Ok (Je s) (bd _ _)
    rw [lowE hv0.1]
    have hlw := lw_b (v := x >>> ((3 : Int32) &&& 31)) (n := v) hv0.1
    obtain ⟨p, hpd⟩ : ∃ p, p = lw (x >>> ((3 : Int32) &&& 31)) v := ⟨_, rfl⟩
    rw [← hpd] at hlw ⊢
    clear hpd
    have hpc : 0 ≤ p.toInt ∧ p.toInt ≤ 99999 := by omega
    have hp0 : (0 : Int32).toInt ≤ p.toInt ∧ p.toInt ≤ (99999 : Int32).toInt := by rw [z0, z9]; exact hpc
    rw [if_pos (of_eq_true c3i)]
    refine ok_jn fun k10 hk10 => ?_
    -- arrears are cured, or not
    have C : Ok (Je s) (k10 σ) := by
      rw [hk10]
      show Ok (Je s) (bd _ _)
      rw [lowE (n := 36) (by decide)]
      obtain ⟨y, hy, ey⟩ := lw_nI (v := x >>> ((18 : Int32) &&& 31)) (n := 36) (N := 36) rfl (by decide) (by decide)
      rw [ey]
      have e1 : ((1 : Int32) + nI y).toInt = 1 + y := by rw [tadd] <;> rw [nI_toInt (by omega), z1] <;> omega
      obtain ⟨t, ht⟩ : ∃ t, t = (1 : Int32) + nI y := ⟨_, rfl⟩
      rw [← ht] at e1 ⊢
      have htm : (1 : Int32).toInt ≤ t.toInt ∧ t.toInt ≤ (36 : Int32).toInt := by rw [z1, z36]; omega
      have ht0 : ¬ t = 0 := fun z => by rw [z, z0] at e1; omega
      rw [if_pos (of_eq_true c3i)]
      refine ok_jn fun k13 hk13 => ?_
      have F : ¬ (Z.1 (34 + 11 * k + 3) = 1 ∧ ¬ Z.1 (34 + 11 * k + 8) = 0 ∧ Z.1 (34 + 11 * k + 6) ≤ 0) → Ok (Je s) k13 := fun z => by
        rw [hk13]
        refine ok_q (e_cure4 hI hkb htm z) hr fun τ1 r1 s1 => ?_
        rw [if_pos rfl]
        refine ok_q (e_cure2 hI hkb (b := 37) (by decide)) r1 fun τ2 r2 s2 => ?_
        rw [if_pos rfl]
        exact ok_r (je_q hJ r2 (s1.trans s2))
      clear hk13
      rw [L3']
      by_cases d1 : Z.1 (34 + 11 * k + 3) = 1
      rotate_left
      · rw [if_neg d1]; exact F fun z => d1 z.1
      rw [if_pos d1, if_pos (of_eq_true c8i), L8]
      by_cases d2 : Z.1 (34 + 11 * k + 8) = 0
      · rw [if_pos d2]; exact F fun z => z.2.1 d2
      rw [if_neg d2, if_pos (of_eq_true c6i), L6]
      by_cases d3 : Z.1 (34 + 11 * k + 6) ≤ 0
      rotate_left
      · rw [if_neg d3]; exact F fun z => d3 z.2.2
      clear F
      have hG := e_cure hI hkb htm ⟨d1, d2, d3⟩
      have hE : Lr (up (up (up σ 336 0 (11 * k + 7) 0) 336 0 (11 * k + 8) 0) 336 0 (11 * k + 5) ((Z.1 (34 + 11 * k + 4) + t - 1) / t)) (upd (upd (upd Z.1 (34 + 11 * k + 7) 0) (34 + 11 * k + 8) 0) (34 + 11 * k + 5) ((Z.1 (34 + 11 * k + 4) + t - 1) / t)) := ((hLr.pu (rlw hk (by decide))).pu (rlw hk (by decide))).pu (rlw hk (by decide))
      have hSr : RCl (up (up (up σ 336 0 (11 * k + 7) 0) 336 0 (11 * k + 8) 0) 336 0 (11 * k + 5) ((Z.1 (34 + 11 * k + 4) + t - 1) / t)) Z := RCl_up (RCl_up (RCl_up hr (by omega)) (by omega)) (by omega)
      rw [if_pos d3, if_pos (of_eq_true c7i), if_pos (of_eq_true c8i), lt_eq, if_pos (of_eq_true c4i), if_pos ht0, if_pos (of_eq_true c5i), up_nl (show 11 * k + 4 ≠ 11 * k + 8 by omega), up_nl (show 11 * k + 4 ≠ 11 * k + 7 by omega), L4]
      refine ok_k hG hSr fun τ1 r1 s1 => ?_
      have e5 : τ1.1 336 0 (11 * k + 5) = (Z.1 (34 + 11 * k + 4) + t - 1) / t := by rw [s1 336 rfl, up_eq]
      rw [if_pos (of_eq_true c5i), e5, if_pos rfl]
      exact ok_r (je_k hI hG.1 (by omega) r1 s1 hE (fun _ _ _ _ _ _ => rfl) ⟨hG.1.1, by unfold nc; rw [upd_ne (by omega), upd_ne (by omega), upd_ne (by omega)]; exact hn, by rw [upd_ne (by omega), upd_ne (by omega), upd_ne (by omega)]; exact hm1, by rw [upd_ne (by omega), upd_ne (by omega), upd_ne (by omega)]; exact hm2⟩ (by rw [up_ne (by decide), up_ne (by decide), up_ne (by decide)]; exact h1) (fun i hi => by rw [upd_ne (by omega), upd_ne (by omega), upd_ne (by omega)]; have := hb i hi; omega) (hR.cg fun l w hl hw => by rw [upd_ne (by omega), upd_ne (by omega), upd_ne (by omega)]))
    clear hk10
    refine ok_jn fun k21 hk21 => ?_
    -- a sale, or a third of the time the cure
    have D : Ok (Je s) k21 := by
      rw [hk21, lowE (n := 3) (by decide)]
      by_cases d0 : lw (x >>> ((16 : Int32) &&& 31)) 3 = 0
      · rw [if_pos d0]; exact C
      rw [if_neg d0, if_pos (of_eq_true c3i)]
      refine ok_jn fun k24 hk24 => ?_
      have F : Cq Z (dc_X9_sell (nI k) p) (-4) → Ok (Je s) k24 := fun z => by
        rw [hk24]
        refine ok_q z hr fun τ1 r1 s1 => ?_
        rw [if_pos rfl]
        refine ok_q (e_sell2 hI hkb (c := 100000) (by decide)) r1 fun τ2 r2 s2 => ?_
        rw [if_pos rfl]
        exact ok_r (je_q hJ r2 (s1.trans s2))
      clear hk24
      rw [L3']
      by_cases d1 : Z.1 (34 + 11 * k + 3) = 1
      rotate_left
      · rw [if_neg d1]; exact F (e_sell4 hI hkb hp0 d1)
      rw [if_pos d1, if_pos (of_eq_true c8i), L8]
      by_cases d2 : (3 : Int32) ≤ Z.1 (34 + 11 * k + 8)
      rotate_left
      · rw [if_neg d2]; exact F (e_sell4a hI hkb hp0 d1 d2)
      rw [if_pos d2, if_pos (of_eq_true i93), g3]
      clear F k24
      obtain ⟨τ1, a1, a2, τ2, b1, b2, b3, τ3, f1, f2, f3⟩ := lsell_run hI.1 (by omega) hL hkb hpc hLr
      have q2 : (up τ2 304 0 3 (Z.1 4 + (p - sA0 Z.1 k p - sA1 Z.1 k p))).1 304 0 3 = sQ Z.1 k p := up_eq
      rw [bdE a1, bdE b1, if_pos (of_eq_true i93), if_pos (of_eq_true i93), q2, show up τ2 304 0 3 (Z.1 4 + (p - sA0 Z.1 k p - sA1 Z.1 k p)) = up τ2 304 0 3 (sQ Z.1 k p) from rfl, bdE f1, if_pos (of_eq_true i93)]
      have hF : SameC σ τ3 := a2.1.trans (b2.1.trans (SameC.trans (SameC_up (f := 304) rfl) f2.1))
      obtain ⟨S, eS⟩ : ∃ S, S = up τ3 304 0 3 (sQ Z.1 k p - sA2 Z.1 k p) := ⟨_, rfl⟩
      have hSr : RCl S Z := by rw [eS]; exact RCl_up (hr.congr hF) (by omega)
      have hS1 : S.1 304 0 1 = 4 := by rw [eS, up_nl (by decide), f2.2, up_nl (by decide), b2.2, a2.2]; exact h1
      have hS2 : S.1 304 0 2 = nI (nc Z.1) := by rw [eS, up_nl (by decide), f2.2, up_nl (by decide), b2.2, a2.2]; exact g2
      rw [← eS] at f3 ⊢
      clear eS hF f1 f2 b1 b2 b3 a1 a2 τ1 τ2 q2
      have nB : nc (sB Z.1 k p) = nc Z.1 := sB_n
      obtain ⟨E, hE⟩ : ∃ E, E = sB Z.1 k p := ⟨_, rfl⟩
      have hdE : Hd E := by rw [hE]; exact sB_hd hI.1.hd
      have nE : nc E = nc Z.1 := by rw [hE]; exact nB
      have cE : Cnt E := by rw [hE]; exact sB_cnt hc
      have E1 : E 1 = 3 := by rw [hE, sB_x (by omega), coJ_123.1]; exact hm1
      have naE : na E = 3 := by unfold na; rw [E1]; rfl
      rw [← hE] at f3
      refine wh2_cps (T := Ok (Je s)) (fun j y υ => Lr υ (woJ E k j) ∧ FrL S υ ∧ y = wsm E k j) (fun j => nI j) (nc Z.1) (by omega) (fun j y υ rec hj hP ih => ?_) (fun y υ rec hP => ?_) ⟨by rw [wo_0]; exact f3, FrL.refl S, rfl⟩
      · obtain ⟨p1, p2, p3⟩ := hP
        have hj10 : j < 10 := by omega
        have g2' : υ.1 304 0 2 = nI (nc Z.1) := by rw [p2.2]; exact hS2
        have n1 : υ.1 352 0 (6 * j + 1) = E (144 + 7 * j + 1) := (p1 _ _ _ (rn1 hj10)).trans (wo_nx (by omega) (by omega) (by omega))
        rw [if_pos (of_eq_true i92), g2', if_neg (by rw [nI_leI (by omega) (by omega)]; omega), xm6, xp1, xp1, if_pos (of_eq_true (inT60 (by omega))), clN (k := 6 * j + 1) (by omega), n1]
        by_cases d : E (144 + 7 * j + 1) = nI k
        · obtain ⟨i, hi, he⟩ := isI_of cE (hdE j (by omega))
          rw [naE] at hi
          have n0 : υ.1 352 0 (6 * j) = nI i := (p1 _ _ _ (rn0 hj10)).trans ((wo_nx (w := 0) (by omega) (by omega) (by omega)).trans he)
          have n3 : υ.1 352 0 (6 * j + 3) = E (144 + 7 * j + 3) := (p1 _ _ _ (rn3 hj10)).trans (wo_nj (by omega) (Nat.le_refl j))
          have i2 := p1 _ _ _ (ri2 hi)
          have hih := ih (y + E (144 + 7 * j + 3)) (up (up (up υ 352 0 (6 * j + 5) (E (144 + 7 * j + 3))) 320 0 (3 * i + 2) (woJ E k j (10 + 3 * i + 2) + E (144 + 7 * j + 3))) 352 0 (6 * j + 3) 0) ⟨by
            rw [wo_law (by omega) (by omega) he d]
            exact ((p1.pu (rn5 hj10)).pu (ri2 hi)).pu (rn3 hj10), FrL_up (FrL_up (FrL_up p2 (by omega)) (by omega)) (by omega), by rw [wsm_succ, if_pos d, p3]⟩
          rw [if_pos d]
          simp (disch := omega) only [↓reduceIte, ↓lt_eq, xm3, xp2, xp3, xp5, inT60, inT9, clN, n0, n3, i2, up_ne, up_nl]
          exact hih
        · rw [if_neg d]
          exact ih y υ ⟨by rw [show woJ E k (j + 1) = woJ E k j from funext (wo_skip d)]; exact p1, p2, by rw [wsm_succ, if_neg d]; exact p3⟩
      · obtain ⟨p1, p2, p3⟩ := hP
        have g2' : υ.1 304 0 2 = nI (nc Z.1) := by rw [p2.2]; exact hS2
        rw [if_pos (of_eq_true i92), g2', if_pos (by rw [nI_leI (by omega) (by omega)]; omega), if_pos (of_eq_true c3i), if_pos (of_eq_true c4i)]
        refine ok_lt fun S1 e1 => ?_
        rw [if_pos (of_eq_true c6i), if_pos (of_eq_true c7i)]
        refine ok_lt fun S2 e2 => ?_
        rw [if_pos (of_eq_true c8i), if_pos (of_eq_true c10i)]
        refine ok_lt fun S3 e3 => ?_
        have Q3 : Lr S3 (sM Z.1 k p) := by
          rw [e3, e2, e1]
          unfold sM endM
          rw [← hE]
          exact (((((p1.pu (rlw hk (by decide))).pu (rlw hk (by decide))).pu (rlw hk (by decide))).pu (rlw hk (by decide))).pu (rlw hk (by decide))).pu (rlw hk (by decide))
        have R3 : RCl S3 Z := by
          rw [e3, e2, e1]
          exact RCl_up (RCl_up (RCl_up (RCl_up (RCl_up (RCl_up (RCl_L hSr p2) (by omega)) (by omega)) (by omega)) (by omega)) (by omega)) (by omega)
        have h31 : S3.1 304 0 1 = 4 := by rw [e3, up_ne (by decide), up_ne (by decide), e2, up_ne (by decide), up_ne (by decide), e1, up_ne (by decide), up_ne (by decide), p2.2]; exact hS1
        clear e3 e2 e1 S1 S2 p1 p2 g2' f3 hSr hS1 hS2
        have hg : ∀ n, n < nc Z.1 → 0 ≤ (nil n + hp Z.1 k p n).toInt ∧ (nil n + hp Z.1 k p n).toInt ≤ 2000000 := fun n hn' => by
          have := (hp_z (l := k) hI.1 (by omega) hpc hn').1
          show 0 ≤ ((0 : Int32) + hp Z.1 k p n).toInt ∧ ((0 : Int32) + hp Z.1 k p n).toInt ≤ 2000000
          rw [Int32.zero_add]
          omega
        have hf := fitL hs hL hb hg
        have hG := e_sell hI (by omega) hkb hp0 d1 d2 hf
        rw [← hE, ← p3] at hG
        refine ok_k hG R3 fun τa ra sa => ?_
        rw [if_pos rfl]
        have I2 : InvZ (200000 * s + 200000) (pushZ Z (sM Z.1 k p)) := (hI.mono (by omega)).push hG.1
        have hnr : ¬ (pushZ Z (sM Z.1 k p)).1 (34 + 11 * k + 3) = 1 := by
          show ¬ sM Z.1 k p (34 + 11 * k + 3) = 1
          unfold sM
          rw [endM_in.1]
          decide
        have hkb2 : k < nb (pushZ Z (sM Z.1 k p)).1 := by
          show k < nb (sM Z.1 k p)
          have : nb (sM Z.1 k p) = nb Z.1 := by unfold nb; rw [sM_low (by omega) (by omega) (by omega)]
          omega
        refine ok_q (e_sell4 I2 hkb2 hp0 hnr) ra fun τb rb sb => ?_
        rw [if_pos rfl]
        have hcs := cashL hs hL hI.1.2.2.2.2.1 hb hg
        refine ok_r (je_k hI hG.1 (by omega) rb (sa.trans sb) Q3 (fun _ _ _ _ _ _ => rfl) ⟨hG.1.1, ?_, ?_, ?_⟩ h31 (fun i hi => ?_) (hR.one (k := k) (fun l w hl hlk hw => sM_oth (by omega) (by omega) hlk) fun hz => absurd hz hnr))
        · unfold nc; rw [sM_low (by omega) (by omega) (by omega)]; exact hn
        · rw [sM_low (by omega) (by omega) (by omega)]; exact hm1
        · rw [sM_low (by omega) (by omega) (by omega)]; exact hm2
        · rw [sM_cash hi]; exact hcs i hi
    clear hk21
    rw [L3']
    by_cases d1 : Z.1 (34 + 11 * k + 3) = 1
    rotate_left
    · rw [if_neg d1]; exact D
    rw [if_pos d1, if_pos (of_eq_true c8i), L8]
    by_cases d2 : Z.1 (34 + 11 * k + 8) ≤ 0
    · rw [if_pos d2]; exact D
    rw [if_neg d2, if_pos (of_eq_true c6i), L6]
    by_cases d3 : Z.1 (34 + 11 * k + 6) = 0
    · rw [if_pos d3]; exact C
    · rw [if_neg d3]; exact D
  by_cases c1 : lw (x >>> ((14 : Int32) &&& 31)) 2 = 0
  · rw [if_pos c1]; exact H _ (Or.inl rfl)
  · rw [if_neg c1]; exact H _ (Or.inr rfl)
