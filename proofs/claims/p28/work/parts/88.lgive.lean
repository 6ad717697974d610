/-! THE LAW GIVES: the pool's share and coins, or a loan given up -/
theorem fitL {s : Nat} {m : Mt} {g : Gf} (hs : s ≤ 60) (hL : L3 m) (hb : ∀ i, i < 3 → (m (10 + 3 * i)).toInt ≤ 4000 + 20000000 * s) (hg : ∀ n, n < nc m → 0 ≤ (g n).toInt ∧ (g n).toInt ≤ 2000000) : Fit m g := fun i hi => by
  rw [hL.a] at hi
  have h1 := hb i hi
  have h2 := (CI_b (m := m) (i := i) (j := nc m) hg).2
  have h3 := hL.2.1
  have h4 : ((nc m : Nat) : Int) * 2000000 ≤ 20000000 := by omega
  omega
theorem cashL {s : Nat} {m : Mt} {gi gp : Gf} (hs : s ≤ 60) (hL : L3 m) (h0 : ∀ i, i < 8 → 0 ≤ (m (10 + 3 * i)).toInt) (hb : ∀ i, i < 3 → (m (10 + 3 * i)).toInt ≤ 4000 + 20000000 * s) (hg : ∀ n, n < nc m → 0 ≤ (gi n + gp n).toInt ∧ (gi n + gp n).toInt ≤ 2000000) : ∀ i, i < 3 → (coJ m gi gp (nc m) (10 + 3 * i)).toInt ≤ 4000 + 20000000 * (s + 1) := fun i hi => by
  have h1 := hb i hi
  have h3 := hL.2.1
  have h2 := CI_b (m := m) (g := fun n => gi n + gp n) (i := i) (j := nc m) hg
  have h4 : ((nc m : Nat) : Int) * 2000000 ≤ 20000000 := by omega
  have h5 := h0 i (by omega)
  rw [coJ_c (by omega)]
  have e := sG_int (m := m) (g := fun n => gi n + gp n) (i := i) (nc m) (by omega) hg
  rw [tadd] <;> rw [e] <;> omega
theorem endM_same {m : Mt} {l : Nat} {s : Int32} (h4 : m (34 + 11 * l + 4) = 0) (h6 : m (34 + 11 * l + 6) = 0) (h7 : m (34 + 11 * l + 7) = 0) (h8 : m (34 + 11 * l + 8) = 0) (h10 : m (34 + 11 * l + 10) = -5) : endM m l s = upd m (34 + 11 * l + 3) s := by
  unfold endM
  rw [upd_same (f := upd m (34 + 11 * l + 3) s) (k := 34 + 11 * l + 4) (by rw [upd_ne (by omega)]; exact h4), upd_same (f := upd m (34 + 11 * l + 3) s) (k := 34 + 11 * l + 6) (by rw [upd_ne (by omega)]; exact h6), upd_same (f := upd m (34 + 11 * l + 3) s) (k := 34 + 11 * l + 7) (by rw [upd_ne (by omega)]; exact h7), upd_same (f := upd m (34 + 11 * l + 3) s) (k := 34 + 11 * l + 8) (by rw [upd_ne (by omega)]; exact h8), upd_same (f := upd m (34 + 11 * l + 3) s) (k := 34 + 11 * l + 10) (by rw [upd_ne (by omega)]; exact h10)]
theorem coJ_loan {m : Mt} {gi gp : Gf} {j l w : Nat} (hl : l < 10) (hw : w < 11) : coJ m gi gp j (34 + 11 * l + w) = m (34 + 11 * l + w) := coJ_out (by omega) (by omega)
theorem L3.co {m : Mt} {gi gp : Gf} {j : Nat} (h : L3 m) : L3 (coJ m gi gp j) := by
  refine ⟨coJ_cnt h.1, ?_, coJ_123.1.trans h.2.2.1, coJ_123.2.1.trans h.2.2.2⟩
  have : nc (coJ m gi gp j) = nc m := by unfold nc; rw [coJ_123.2.2]
  rw [this]
  exact h.2.1
theorem lgive {s : Nat} {σ : Sto} {Z : Zt} (hs : s ≤ 60) (hJ : Jv s σ Z) (x : Int32) : Ok (Je s) (dc_L_isGiven x σ) := by
  obtain ⟨hr, hI, hLr, hL, h1, hb, hR⟩ := id hJ
  obtain ⟨hc, hn, hm1, hm2⟩ := id hL
  obtain ⟨h3, hn'⟩ := hc.c
  have ha := hL.a
  have hbn := hL.b
  have z0 : (0 : Int32).toInt = 0 := rfl
  have z1 : (1 : Int32).toInt = 1 := rfl
  have z50 : (50 : Int32).toInt = 50 := rfl
  have g2 : σ.1 304 0 2 = nI (nc Z.1) := (hLr _ _ _ rg2).trans h3
  have g4 := hLr _ _ _ rg4
  unfold dc_L_isGiven
  rw [if_pos (of_eq_true i91), cl_1, h1, lowE (n := 4) (by decide), lowE (n := 3) (by decide)]
  obtain ⟨k, hk, ek⟩ := lw_nI (v := x) (n := 4) (N := 4) rfl (by decide) (by decide)
  rw [ek]
  have hkb : k < nb Z.1 := by omega
  have hLo := hI.1.2.2.2.2.2.1 k hkb
  have L3' := hLr _ _ _ (rlw (w := 3) hk (by decide))
  by_cases c1 : lw (x >>> ((3 : Int32) &&& 31)) 3 ≤ 0
  · rw [if_pos c1, xm11, xp3, if_pos (of_eq_true (inT44 (by omega))), clN (by omega), L3']
    by_cases c2 : Z.1 (34 + 11 * k + 3) ≤ 0
    · have st0 : Z.1 (34 + 11 * k + 3) = 0 := by
        have := hLo.2.2.2.1
        rw [tle, z0] at c2
        rw [teq, z0]
        omega
      obtain ⟨k4, k6, k7, k8, k10⟩ := hLo.2.2.2.2.2.2.2.2.2.2.2 (by rw [st0]; decide)
      rw [if_pos c2, bdE (lpr_eq hLr hc hn (nI k) (-1) 2 (Or.inl ⟨by decide, rfl⟩))]
      obtain ⟨g, hg⟩ : ∃ g, g = wt Z.1 (nI k) 2 := ⟨_, rfl⟩
      have hgb : ∀ n, n < nc Z.1 → 0 ≤ (nil n + g n).toInt ∧ (nil n + g n).toInt ≤ 2000000 := fun n _ => by
        show 0 ≤ ((0 : Int32) + g n).toInt ∧ ((0 : Int32) + g n).toInt ≤ 2000000
        rw [Int32.zero_add, hg]
        have := wt_ok hI.1.pb (nI k) 2 n
        omega
      refine wh1_inv (T := Ok (Je s)) (fun j τ => Lr τ (coJ Z.1 nil g j) ∧ FrL σ τ) (nc Z.1) (by omega) (fun j τ hj hP => ?_) (fun τ hP rec => ?_) ⟨by rw [coJ_0]; exact hLr, FrL.refl σ⟩
      · obtain ⟨p1, p2⟩ := hP
        have g2' : τ.1 304 0 2 = nI (nc Z.1) := by rw [p2.2]; exact g2
        have n1 : τ.1 352 0 (6 * j + 1) = Z.1 (144 + 7 * j + 1) := (p1 _ _ _ (rn1 (by omega))).trans (coJ_nx (by omega) (by omega) (by omega))
        by_cases d : Z.1 (144 + 7 * j + 1) = nI k
        · obtain ⟨i, hi, he⟩ := isI_of hc (hI.1.hd j hj)
          rw [ha] at hi
          have n0 : τ.1 352 0 (6 * j) = nI i := (p1 _ _ _ (rn0 (by omega))).trans (coJ_j0.trans he)
          have gj : g j = Z.1 (144 + 7 * j + 3) := by rw [hg]; exact if_pos ⟨hj, d, Or.inl rfl⟩
          have e3 : coJ Z.1 nil g j (144 + 7 * j + 3) = Z.1 (144 + 7 * j + 3) := coJ_nj (by omega) (Nat.le_refl j)
          have n3 : τ.1 352 0 (6 * j + 3) = Z.1 (144 + 7 * j + 3) := (p1 _ _ _ (rn3 (by omega))).trans e3
          have i0 := p1 _ _ _ (ri0 hi)
          refine ⟨up (up τ 320 0 (3 * i) (coJ Z.1 nil g j (10 + 3 * i) + Z.1 (144 + 7 * j + 3))) 352 0 (6 * j + 3) 0, ⟨?_, FrL_up (FrL_up p2 (by omega)) (by omega)⟩, fun rec => ?_⟩
          · rw [coJ_p (by omega) he, gj, e3, Int32.sub_self]
            exact (p1.pu (ri0 hi)).pu (rn3 (by omega))
          · simp (disch := omega) only [lt_eq, i92, if_true, cl_2, g2', xm6, xm3, xp1, xp3, n0, n1, d, inT60, inT10, inT9, clN, i0, n3, up_ne]
            rw [if_neg (by rw [nI_leI (by omega) (by omega)]; omega)]
        · have gj : g j = 0 := by rw [hg]; exact if_neg (fun z => d z.2.1)
          refine ⟨τ, ⟨by rw [show coJ Z.1 nil g (j + 1) = coJ Z.1 nil g j from funext (coJ_skip rfl gj)]; exact p1, p2⟩, fun rec => ?_⟩
          rw [if_pos (of_eq_true i92), cl_2, g2', if_neg (by rw [nI_leI (by omega) (by omega)]; omega), xm6, xp1, xp1, if_pos (of_eq_true (inT60 (by omega))), clN (by omega), n1, if_neg d]
      · obtain ⟨p1, p2⟩ := hP
        have g2' : τ.1 304 0 2 = nI (nc Z.1) := by rw [p2.2]; exact g2
        rw [if_pos (of_eq_true i92), cl_2, g2', if_pos (by rw [nI_leI (by omega) (by omega)]; omega), if_pos (of_eq_true (inT44 (by omega)))]
        have hf := fitL hs hL hb hgb
        rw [hg] at hf
        have hG := e_give hI hkb st0 hf
        rw [← hg] at hG
        have eM : endM (coJ Z.1 nil g (nc Z.1)) k 4 = upd (coJ Z.1 nil g (nc Z.1)) (34 + 11 * k + 3) 4 := endM_same (by rw [coJ_loan (by omega) (by omega)]; exact k4) (by rw [coJ_loan (by omega) (by omega)]; exact k6) (by rw [coJ_loan (by omega) (by omega)]; exact k7) (by rw [coJ_loan (by omega) (by omega)]; exact k8) (by rw [coJ_loan (by omega) (by omega)]; exact k10)
        rw [eM] at hG
        refine ok_k hG (RCl_up (RCl_L hr p2) (by omega)) fun υ r1 s1 => ?_
        rw [if_pos rfl]
        have hLc := hL.co (gi := nil) (gp := g) (j := nc Z.1)
        have hcs := cashL hs hL hI.1.2.2.2.2.1 hb hgb
        exact ok_r (je_k hI hG.1 (by omega) r1 s1 (p1.pu (rlw (w := 3) hk (by decide))) (fun _ _ _ _ _ _ => rfl) ⟨hG.1.1, by unfold nc; rw [upd_ne (by omega)]; exact hLc.2.1, by rw [upd_ne (by omega)]; exact hLc.2.2.1, by rw [upd_ne (by omega)]; exact hLc.2.2.2⟩ (by rw [up_ne (by decide), p2.2]; exact h1) (fun i hi => by rw [upd_ne (by omega)]; exact hcs i hi) (hR.one (k := k) (fun l v hl hlk hv => by rw [upd_ne (by omega)]; exact coJ_loan (by omega) (by omega)) (fun q => by rw [upd_eq] at q; exact absurd q (by decide))))
    · have st0 : ¬ Z.1 (34 + 11 * k + 3) = 0 := fun z => c2 (by rw [z]; decide)
      rw [if_neg c2]
      refine ok_q (e_give4 hI hkb st0) hr fun τ1 r1 s1 => ?_
      rw [if_pos rfl, if_pos (of_eq_true i91), s1 304 rfl, h1]
      refine ok_q (e_give1 hI (notL4 hL)) r1 fun τ2 r2 s2 => ?_
      rw [if_pos rfl]
      exact ok_r (je_q hJ r2 (s1.trans s2))
  · rw [if_neg c1, lowE (n := 51) (by decide), if_pos (of_eq_true i94), cl_4, lowE (n := 3) (by decide)]
    obtain ⟨v, hv, ev⟩ := lw_nI (v := x >>> ((5 : Int32) &&& 31)) (n := 51) (N := 51) rfl (by decide) (by decide)
    obtain ⟨w, hw, ew⟩ := lw_nI (v := x >>> ((11 : Int32) &&& 31)) (n := 3) (N := 3) rfl (by decide) (by decide)
    rw [ev, ew]
    have I0 := hLr _ _ _ (ri0 hw)
    have tv : (nI v).toInt = v := nI_toInt (by omega)
    have tv1 : ((1 : Int32) + nI v).toInt = v + 1 := by rw [tadd] <;> rw [tv, z1] <;> omega
    simp (disch := omega) only [↓reduceIte, ↓lt_eq, i94, xm3, inT9, clN, up_ne, I0, cl_4, g4]
    have hin : (0 : Int32).toInt ≤ (nI v).toInt ∧ (nI v).toInt ≤ (50 : Int32).toInt := by rw [tv, z0, z50]; omega
    have hS : RCl (up (up σ 304 0 4 (nI v)) 320 0 (3 * w) (Z.1 (10 + 3 * w) + ((1 : Int32) + nI v))) Z := RCl_up (RCl_up hr (by omega)) (by omega)
    have hE : Lr (up (up σ 304 0 4 (nI v)) 320 0 (3 * w) (Z.1 (10 + 3 * w) + ((1 : Int32) + nI v))) (upd (upd Z.1 5 (nI v)) (10 + 3 * w) (Z.1 (10 + 3 * w) + ((1 : Int32) + nI v))) := (hLr.pu rg4).pu (ri0 hw)
    have hS1 : (up (up σ 304 0 4 (nI v)) 320 0 (3 * w) (Z.1 (10 + 3 * w) + ((1 : Int32) + nI v))).1 304 0 1 = 4 := by rw [up_ne (by decide), up_nl (by decide)]; exact h1
    obtain ⟨S, eS⟩ : ∃ S, S = up (up σ 304 0 4 (nI v)) 320 0 (3 * w) (Z.1 (10 + 3 * w) + ((1 : Int32) + nI v)) := ⟨_, rfl⟩
    rw [← eS] at hS hE hS1 ⊢
    -- behind the pool's share
    have R : ∀ (τ : Sto) (Z1 : Zt), RCl τ Z1 → SameM S τ → InvZ (200000 * s) Z1 → Z1.1 = upd Z.1 5 (nI v) → Ok (Je s) (bd (dc_X9_setPoolShare (51 : Int32) τ) fun r26 σ27 => (if r26 = (-2 : Int32) then (bd (dc_X9_deposit (nI w) ((1 : Int32) + nI v) σ27) fun r28 σ29 => (if r28 = (σ29.1 320 0 (3 * w)) then (bd (dc_X9_deposit (nI w) (0 : Int32) σ29) fun r30 σ31 => (if r30 = (-2 : Int32) then (bd (dc_X9_deposit (3 : Int32) (1 : Int32) σ31) fun r32 σ33 => (if r32 = (-1 : Int32) then some ((1 : Int32), σ33) else some ((0 : Int32), σ33))) else some ((0 : Int32), σ31))) else some ((0 : Int32), σ29))) else some ((0 : Int32), σ27))) := fun τ Z1 r1 s1 I1 e1 => by
      have hL1 : L3 Z1.1 := by
        rw [e1]
        refine ⟨by rw [← e1]; exact I1.1.1, by unfold nc; rw [upd_ne (by omega)]; exact hn, by rw [upd_ne (by omega)]; exact hm1, by rw [upd_ne (by omega)]; exact hm2⟩
      have ew1 : Z1.1 (10 + 3 * w) = Z.1 (10 + 3 * w) := by rw [e1, upd_ne (by omega)]
      have hbw := hb w hw
      have h0w := hI.1.2.2.2.2.1 w (by omega)
      refine ok_q (e_sps2 I1 (a := 51) (by decide)) r1 fun τ2 r2 s2 => ?_
      rw [if_pos rfl]
      have hD := e_dep I1 (i := w) (b := (1 : Int32) + nI v) (by rw [hL1.a]; exact hw) (by rw [tle, tv1, z1]; omega) (by rw [ew1, tv1]; omega)
      refine ok_k hD r2 fun τ3 r3 s3 => ?_
      have e320 : τ3.1 320 0 (3 * w) = Z.1 (10 + 3 * w) + ((1 : Int32) + nI v) := by rw [s3 320 rfl, s2 320 rfl, s1 320 rfl]; exact (hE _ _ _ (ri0 hw)).trans upd_eq
      rw [e320, ew1, if_pos rfl]
      have I3 : InvZ (200000 * s) (pushZ Z1 (upd Z1.1 (10 + 3 * w) (Z1.1 (10 + 3 * w) + ((1 : Int32) + nI v)))) := I1.push hD.1
      have eZ : (pushZ Z1 (upd Z1.1 (10 + 3 * w) (Z1.1 (10 + 3 * w) + ((1 : Int32) + nI v)))).1 = upd (upd Z.1 5 (nI v)) (10 + 3 * w) (Z.1 (10 + 3 * w) + ((1 : Int32) + nI v)) := by
        show upd Z1.1 _ _ = _
        rw [e1, upd_ne (by omega)]
      rw [ew1] at I3 eZ r3
      obtain ⟨Z3, hZ3⟩ : ∃ Z3, Z3 = pushZ Z1 (upd Z1.1 (10 + 3 * w) (Z.1 (10 + 3 * w) + ((1 : Int32) + nI v))) := ⟨_, rfl⟩
      rw [← hZ3] at I3 eZ r3
      have hL3 : L3 Z3.1 := by
        refine ⟨I3.1.1, ?_, ?_, ?_⟩
        · rw [eZ]; unfold nc; rw [upd_ne (by omega), upd_ne (by omega)]; exact hn
        · rw [eZ, upd_ne (by omega), upd_ne (by omega)]; exact hm1
        · rw [eZ, upd_ne (by omega), upd_ne (by omega)]; exact hm2
      refine ok_q (e_dep2 I3 (i := w) (b := 0) (by rw [hL3.a]; exact hw) (by decide)) r3 fun τ4 r4 s4 => ?_
      rw [if_pos rfl]
      refine ok_q (e_dep1 I3 (notI3 hL3)) r4 fun τ5 r5 s5 => ?_
      rw [if_pos rfl]
      have sT := s1.trans (s2.trans (s3.trans (s4.trans s5)))
      refine ok_r ⟨rfl, Z3, r5, I3.mono (by omega), by rw [eZ]; exact hE.same sT, hL3, by rw [sT 304 rfl]; exact hS1, fun i hi => ?_, hR.cg fun l v hl hv => by rw [eZ, upd_ne (by omega), upd_ne (by omega)]⟩
      have hbi := hb i hi
      rw [eZ]
      by_cases e : i = w
      · rw [e, upd_eq, tadd] <;> rw [tv1] <;> omega
      · rw [upd_ne (by omega), upd_ne (by omega)]; omega
    by_cases c3 : Z.1 5 = nI v
    · refine ok_q (e_sps5 hI hin c3) hS fun τ1 r1 s1 => ?_
      simp only [jn_eq, c3, if_true]
      exact R τ1 Z r1 s1 hI (by rw [upd_same c3])
    · have hP := e_sps hI hin c3
      refine ok_k hP hS fun τ1 r1 s1 => ?_
      simp only [jn_eq, c3, if_true, if_false]
      exact R τ1 _ r1 s1 (hI.push hP.1) rfl
