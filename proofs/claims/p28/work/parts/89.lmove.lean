/-! THE LAW SWITCHES A SERVICER OR SELLS A NOTE -/
theorem lmove {s : Nat} {σ : Sto} {Z : Zt} (hs : s ≤ 60) (hJ : Jv s σ Z) (x : Int32) : Ok (Je s) (dc_L_isMoved x σ) := by
  obtain ⟨hr, hI, hLr, hL, h1, hb, hR⟩ := id hJ
  obtain ⟨hc, hn, hm1, hm2⟩ := id hL
  obtain ⟨h3, hn'⟩ := hc.c
  have ha := hL.a
  have hbn := hL.b
  have z0 : (0 : Int32).toInt = 0 := rfl
  have z9 : (99999 : Int32).toInt = 99999 := rfl
  have g2 : σ.1 304 0 2 = nI (nc Z.1) := (hLr _ _ _ rg2).trans h3
  unfold dc_L_isMoved
  rw [lowE (n := 3) (by decide)]
  by_cases c0 : lw (x >>> ((20 : Int32) &&& 31)) 3 = 0
  · rw [if_pos c0, if_pos (of_eq_true i91), cl_1, h1, lowE (n := 4) (by decide), lowE (n := 4) (by decide)]
    obtain ⟨k, hk, ek⟩ := lw_nI (v := x) (n := 4) (N := 4) rfl (by decide) (by decide)
    obtain ⟨v, hv, ev⟩ := lw_nI (v := x >>> ((4 : Int32) &&& 31)) (n := 4) (N := 4) rfl (by decide) (by decide)
    rw [ek, ev]
    have hkb : k < nb Z.1 := by omega
    have hLo := hI.1.2.2.2.2.2.1 k hkb
    have L3' := hLr _ _ _ (rlw (w := 3) hk (by decide))
    have L9 := hLr _ _ _ (rlw (w := 9) hk (by decide))
    have L10 := hLr _ _ _ (rlw (w := 10) hk (by decide))
    have tv : (nI v).toInt = v := nI_toInt (by omega)
    have hv4 : 0 ≤ (nI v).toInt ∧ (nI v).toInt < 4 := by omega
    have nv5 : ¬ nI v = -5 := fun z => by rw [z] at hv4; exact absurd hv4.1 (by decide)
    simp (disch := omega) only [xm11, xp3, xp9, xp10, inT44, if_true, clN, L3', L9, L10, up_ne, up_nl]
    by_cases c1 : Z.1 (34 + 11 * k + 3) = 1
    · rw [if_pos c1]
      have hS : ∀ y : Int32, RCl (up σ 336 0 (11 * k + 10) y) Z := fun y => RCl_up hr (by omega)
      have hE : ∀ y : Int32, Lr (up σ 336 0 (11 * k + 10) y) (upd Z.1 (34 + 11 * k + 10) y) := fun y => hLr.pu (rlw hk (by decide))
      have h1' : ∀ y : Int32, (up σ 336 0 (11 * k + 10) y).1 304 0 1 = 4 := fun y => by rw [up_ne (by decide)]; exact h1
      have hSame : (nI v = if Z.1 (34 + 11 * k + 10) = -5 then Z.1 (34 + 11 * k + 9) else Z.1 (34 + 11 * k + 10)) → Ok (Je s) (bd (dc_X9_switchServicer (nI k) (nI v) (up σ 336 0 (11 * k + 10) (Z.1 (34 + 11 * k + 10)))) fun r31 σ32 => (if r31 = (-5 : Int32) then some ((1 : Int32), σ32) else some ((0 : Int32), σ32))) := fun e => by
        refine ok_q (e_sw5 hI hkb hv4 c1 e) (hS _) fun τ1 r1 s1 => ?_
        rw [if_pos rfl]
        have hJ' : Jv s (up σ 336 0 (11 * k + 10) (Z.1 (34 + 11 * k + 10))) Z := ⟨hS _, hI, by have := hE (Z.1 (34 + 11 * k + 10)); rw [upd_same rfl] at this; exact this, hL, h1' _, hb, hR⟩
        exact ok_r (je_q hJ' r1 s1)
      have hDiff : ¬ (nI v = if Z.1 (34 + 11 * k + 10) = -5 then Z.1 (34 + 11 * k + 9) else Z.1 (34 + 11 * k + 10)) → Ok (Je s) (bd (dc_X9_switchServicer (nI k) (nI v) (up σ 336 0 (11 * k + 10) (nI v))) fun r31 σ32 => (if r31 = (σ32.1 336 0 (11 * k + 9)) then some ((1 : Int32), σ32) else some ((0 : Int32), σ32))) := fun e => by
        have hG := e_sw hI hkb hv4 c1 e
        refine ok_k hG (hS _) fun τ1 r1 s1 => ?_
        have e9 : τ1.1 336 0 (11 * k + 9) = Z.1 (34 + 11 * k + 9) := by rw [s1 336 rfl, up_nl (by omega)]; exact L9
        rw [e9, if_pos rfl]
        exact ok_r (je_k hI hG.1 (by omega) r1 s1 (hE _) (fun _ _ _ _ _ _ => rfl) ⟨hG.1.1, by unfold nc; rw [upd_ne (by omega)]; exact hn, by rw [upd_ne (by omega)]; exact hm1, by rw [upd_ne (by omega)]; exact hm2⟩ (h1' _) (fun i hi => by rw [upd_ne (by omega)]; have := hb i hi; omega) (hR.cg fun l v hl hv => upd_ne (by omega)))
      by_cases q1 : Z.1 (34 + 11 * k + 10) = nI v
      · have q2 : ¬ Z.1 (34 + 11 * k + 10) = -5 := by rw [q1]; exact nv5
        have := hSame (by rw [if_neg q2, q1])
        simp only [jn_eq, if_pos q1, f10, if_false, if_true]
        exact this
      · by_cases q2 : Z.1 (34 + 11 * k + 10) = -5
        · by_cases q3 : Z.1 (34 + 11 * k + 9) = nI v
          · have := hSame (by rw [if_pos q2, q3])
            simp only [jn_eq, if_neg q1, if_pos q2, if_pos q3, f10, if_false, if_true]
            exact this
          · have := hDiff (by rw [if_pos q2]; exact fun z => q3 z.symm)
            simp only [jn_eq, if_neg q1, if_pos q2, if_neg q3, t00, if_true]
            exact this
        · have := hDiff (by rw [if_neg q2]; exact fun z => q1 z.symm)
          simp only [jn_eq, if_neg q1, if_neg q2, t00, if_true]
          exact this
    · rw [if_neg c1]
      refine ok_q (e_sw4 hI hkb hv4 c1) hr fun τ1 r1 s1 => ?_
      rw [if_pos rfl]
      refine ok_q (e_sw1 hI hkb (b := 4) (by decide)) r1 fun τ2 r2 s2 => ?_
      rw [if_pos rfl]
      exact ok_r (je_q hJ r2 (s1.trans s2))
  · rw [if_neg c0, if_pos (of_eq_true i92), cl_2, g2]
    by_cases c1 : nc Z.1 = 0
    · rw [if_pos (by rw [c1]; rfl)]
      have nN : ¬ isN Z.1 0 := fun z => by have := z.2; rw [h3, c1] at this; exact absurd this (by decide)
      refine ok_q (e_sn1n hI nN) hr fun τ1 r1 s1 => ?_
      rw [if_pos rfl]
      exact ok_r (je_q hJ r1 s1)
    rw [if_neg (by rw [show (0 : Int32) = nI 0 from rfl, nI_eq (by omega) (by omega)]; exact c1), if_pos (of_eq_true i92), lowE (n := nI (nc Z.1)) (by rw [nI_toInt (by omega)]; omega), lowE (n := 3) (by decide), lowE (n := 900) (by decide)]
    obtain ⟨n, hnn, en⟩ := lw_nI (v := x) (n := nI (nc Z.1)) (N := nc Z.1) rfl (by omega) (by omega)
    obtain ⟨i, hi, ei⟩ := lw_nI (v := x >>> ((5 : Int32) &&& 31)) (n := 3) (N := 3) rfl (by decide) (by decide)
    obtain ⟨p, hp, ep⟩ := lw_nI (v := x >>> ((7 : Int32) &&& 31)) (n := 900) (N := 900) rfl (by decide) (by decide)
    rw [en, ei, ep]
    have hn10 : n < 10 := by omega
    have hia : i < na Z.1 := by omega
    obtain ⟨u1, u2, -, -, -⟩ := hI.1.2.2.2.2.2.2.1 n hnn
    obtain ⟨t, ht, et⟩ := isI_of hc u1
    obtain ⟨l, hl, el⟩ := isL_of hc u2
    have ht3 : t < 3 := by omega
    have hl4 : l < 4 := by omega
    have n0 : σ.1 352 0 (6 * n) = nI t := (hLr _ _ _ (rn0 hn10)).trans et
    have n1 : σ.1 352 0 (6 * n + 1) = nI l := (hLr _ _ _ (rn1 hn10)).trans el
    have n3 := hLr _ _ _ (rn3 hn10)
    have L3' := hLr _ _ _ (rlw (w := 3) hl4 (by decide))
    have Ii := hLr _ _ _ (ri0 hi)
    have It := hLr _ _ _ (ri0 ht3)
    have tp : (nI p).toInt = p := nI_toInt (by omega)
    have hpr : (0 : Int32).toInt ≤ (nI p).toInt ∧ (nI p).toInt ≤ (99999 : Int32).toInt := by rw [tp, z0, z9]; omega
    rw [xm6, if_pos (of_eq_true (inT60 (by omega))), clN (by omega), n0]
    by_cases c2 : nI t = nI i
    · have ti : t = i := by rw [nI_eq (by omega) (by omega)] at c2; exact c2
      rw [if_pos c2]
      refine ok_q (e_sn2 hI hnn hia ht et hl el hpr ti) hr fun τ1 r1 s1 => ?_
      rw [if_pos rfl]
      refine ok_q (e_sn1i hI hnn (notI3 hL)) r1 fun τ2 r2 s2 => ?_
      rw [if_pos rfl]
      exact ok_r (je_q hJ r2 (s1.trans s2))
    have ti : ¬ t = i := fun z => c2 (by rw [z])
    rw [if_neg c2, xp1, if_pos (of_eq_true (inT60 (by omega))), clN (by omega), n1, xm11, xp3, if_pos (of_eq_true (inT44 (by omega))), clN (by omega), L3']
    have N4 : ¬ (Z.1 (34 + 11 * l + 3) = 1 ∧ nI p ≤ Z.1 (10 + 3 * i)) → Cq Z (dc_X9_sellNote (nI n) (nI i) (nI p)) (-4) := fun z => by
      by_cases d : Z.1 (34 + 11 * l + 3) = 1
      · exact e_sn4c hI hnn hia ht et hl el hpr ti d (fun q => z ⟨d, q⟩)
      · exact e_sn4r hI hnn hia ht et hl el hpr ti d
    refine ok_jn fun k9 hk9 => ?_
    have F : ¬ (Z.1 (34 + 11 * l + 3) = 1 ∧ nI p ≤ Z.1 (10 + 3 * i)) → Ok (Je s) k9 := fun z => by
      rw [hk9]
      refine ok_q (N4 z) hr fun τ1 r1 s1 => ?_
      rw [if_pos rfl]
      refine ok_q (e_sn2p hI hnn hia ht et hl el (p := 100000) (by decide)) r1 fun τ2 r2 s2 => ?_
      rw [if_pos rfl]
      exact ok_r (je_q hJ r2 (s1.trans s2))
    clear hk9
    by_cases c3 : Z.1 (34 + 11 * l + 3) = 1
    rotate_left
    · rw [if_neg c3]; exact F fun z => c3 z.1
    rw [if_pos c3, xm3, if_pos (of_eq_true (inT9 (by omega))), clN (by omega), Ii]
    by_cases c4 : nI p ≤ Z.1 (10 + 3 * i)
    rotate_left
    · rw [if_neg c4]; exact F fun z => c4 z.2
    rw [if_pos c4]
    have hbt := hb t ht3
    have hG := e_sn hI hnn hia ht et hl el hpr ti c3 c4 (by rw [tp]; omega)
    have n0' : (up σ 320 0 (3 * i) (Z.1 (10 + 3 * i) - nI p)).1 352 0 (6 * n) = nI t := by rw [up_ne (by decide)]; exact n0
    have t0' : (up σ 320 0 (3 * i) (Z.1 (10 + 3 * i) - nI p)).1 320 0 (3 * t) = Z.1 (10 + 3 * t) := by rw [up_nl (by omega)]; exact It
    simp (disch := omega) only [↓reduceIte, ↓lt_eq, xm3, xm6, xp3, inT9, inT60, clN, Ii, n0', t0']
    have hE : Lr (up (up (up σ 320 0 (3 * i) (Z.1 (10 + 3 * i) - nI p)) 320 0 (3 * t) (Z.1 (10 + 3 * t) + nI p)) 352 0 (6 * n) (nI i)) (upd (upd (upd Z.1 (10 + 3 * i) (Z.1 (10 + 3 * i) - nI p)) (10 + 3 * t) (Z.1 (10 + 3 * t) + nI p)) (144 + 7 * n) (nI i)) := ((hLr.pu (ri0 hi)).pu (ri0 ht3)).pu (rn0 hn10)
    rw [upd_comm (a := 10 + 3 * i) (b := 10 + 3 * t) (by omega)] at hE
    refine ok_k hG (RCl_up (RCl_up (RCl_up hr (by omega)) (by omega)) (by omega)) fun τ1 r1 s1 => ?_
    have e3 : τ1.1 352 0 (6 * n + 3) = Z.1 (144 + 7 * n + 3) := by
      rw [s1 352 rfl]
      refine (hE _ _ _ (rn3 hn10)).trans ?_
      rw [upd_ne (by omega), upd_ne (by omega), upd_ne (by omega)]
    rw [e3, if_pos rfl]
    have sl : ∀ j, j < 10 → sln Z.1 n t i (nI p) j = Z.1 j := fun j hj => by
      unfold sln
      rw [upd_ne (by omega), upd_ne (by omega), upd_ne (by omega)]
    refine ok_r (je_k hI hG.1 (by omega) r1 s1 hE (fun _ _ _ _ _ _ => rfl) ⟨hG.1.1, by unfold nc; rw [sl 3 (by omega)]; exact hn, by rw [sl 1 (by omega)]; exact hm1, by rw [sl 2 (by omega)]; exact hm2⟩ (by rw [up_ne (by decide), up_ne (by decide), up_ne (by decide)]; exact h1) (fun j hj => ?_) (hR.cg fun l v hl hv => by unfold sln; rw [upd_ne (by omega), upd_ne (by omega), upd_ne (by omega)]))
    have hbj := hb j hj
    have hb0 := hI.1.2.2.2.2.1 j (by omega)
    have hbi0 := hI.1.2.2.2.2.1 i (by omega)
    have c4' := (tle _ _).mp c4
    unfold sln
    rw [upd_ne (by omega)]
    by_cases e : j = i
    · rw [e] at hbj ⊢
      rw [upd_eq, tsub] <;> rw [tp] <;> omega
    · rw [upd_ne (by omega)]
      by_cases e2 : j = t
      · rw [e2] at hbj hb0 ⊢
        rw [upd_eq, tadd] <;> rw [tp] <;> omega
      · rw [upd_ne (by omega)]; omega
