/-! giveUp, on both sides -/
theorem FrW.rcl {σ τ : Sto} {Z : Zt} (h : FrW 288 σ τ) (hr : RCl σ Z) : RCl τ Z := by
  have hM : ∀ f, isM f = true → τ.1 f = σ.1 f := fun f hf => h.1 f (by rintro rfl; cases hf)
  obtain ⟨r0, r1, r2, r3, r4, r5, r6, r7, r8⟩ := hr
  refine ⟨r0.congrM fun f hf => by rw [hM f hf], ?_, fun s hs => ?_, ?_, ?_, ?_, fun q hq => (r6 q hq).congrM fun f hf => by rw [hM f hf], ?_, ?_⟩
  · rw [h.1 33 (by decide)]; exact r1
  · rw [h.2]; exact (r2 s hs).congrM fun f hf => by rw [hM f hf]
  · rw [h.2]; exact r3
  · rw [h.2]; exact r4
  · rw [h.1 147 (by decide)]; exact r5
  · rw [h.1 17 (by decide)]; exact r7
  · rw [h.1 256 (by decide)]; exact r8
theorem FrW.sameM {σ τ : Sto} (h : FrW 288 σ τ) : SameM σ τ := fun f hf => h.1 f (by rintro rfl; cases hf)
theorem Pair.act2 {K K' : Int} {Z : Zt} (hI : InvZ K' Z) {f9 f10 : Sto → Option (Int32 × Sto)} (r : Int32) (m : Mt) (hm : InvM K' m)
    (h9 : ∀ σ, RCl σ Z → ∃ σ0 σ1 τ, SameM σ σ0 ∧ (∀ f, isM f = false → f ≠ 33 → σ1.1 f = σ0.1 f) ∧ RCl σ1 (recZ Z) ∧ f9 σ = some (r, τ) ∧ FrJ 0 σ1 τ ∧ Cla τ 0 m)
    (h10 : ∀ σ, RMo σ Z → ∃ τ, f10 σ = some (r, τ) ∧ RMo τ (pushZ Z m) ∧ SameC σ τ) : Pair K' Z f9 f10 := by
  refine ⟨r, pushZ Z m, hI.push hm, fun σ h => ?_, h10⟩
  obtain ⟨σ0, σ1, τ, z, a, b, c, d, e⟩ := h9 σ h
  obtain ⟨u, v⟩ := fin_c a b d e
  exact ⟨τ, c, u, z.trans v⟩
theorem endM_out {m : Mt} {l k : Nat} {s : Int32} (h : ¬ (34 + 11 * l + 3 ≤ k ∧ k ≤ 34 + 11 * l + 10)) : endM m l s k = m k := by
  unfold endM
  rw [upd_ne (by omega), upd_ne (by omega), upd_ne (by omega), upd_ne (by omega), upd_ne (by omega), upd_ne (by omega)]
theorem endM_in {m : Mt} {l : Nat} {s : Int32} : endM m l s (34 + 11 * l + 3) = s ∧ endM m l s (34 + 11 * l + 4) = 0 ∧ endM m l s (34 + 11 * l + 5) = m (34 + 11 * l + 5) ∧ endM m l s (34 + 11 * l + 6) = 0 ∧ endM m l s (34 + 11 * l + 7) = 0 ∧ endM m l s (34 + 11 * l + 8) = 0 ∧ endM m l s (34 + 11 * l + 9) = m (34 + 11 * l + 9) ∧ endM m l s (34 + 11 * l + 10) = -5 := by
  unfold endM
  refine ⟨?_, ?_, ?_, ?_, ?_, ?_, ?_, ?_⟩
  · rw [upd_ne (by omega), upd_ne (by omega), upd_ne (by omega), upd_ne (by omega), upd_ne (by omega), upd_eq]
  · rw [upd_ne (by omega), upd_ne (by omega), upd_ne (by omega), upd_ne (by omega), upd_eq]
  · rw [upd_ne (by omega), upd_ne (by omega), upd_ne (by omega), upd_ne (by omega), upd_ne (by omega), upd_ne (by omega)]
  · rw [upd_ne (by omega), upd_ne (by omega), upd_ne (by omega), upd_eq]
  · rw [upd_ne (by omega), upd_ne (by omega), upd_eq]
  · rw [upd_ne (by omega), upd_eq]
  · rw [upd_ne (by omega), upd_ne (by omega), upd_ne (by omega), upd_ne (by omega), upd_ne (by omega), upd_ne (by omega)]
  · rw [upd_eq]
theorem endM_lok {m m0 : Mt} {l : Nat} {s : Int32} (h : LoK m (34 + 11 * l)) (h0 : 0 ≤ (m 0).toInt) (hs : 0 ≤ s.toInt ∧ s.toInt ≤ 4) (h1 : ¬ s = 1) : LoK (endM m l s) (34 + 11 * l) := by
  obtain ⟨e3, e4, e5, e6, e7, e8, e9, e10⟩ := endM_in (m := m) (l := l) (s := s)
  obtain ⟨a1, a2, a3, a4, a5, a6, a7, a8, a9, a10, a11, a12⟩ := h
  unfold LoK
  rw [e3, e4, e5, e6, e7, e8, e9, e10, endM_out (k := 0) (by omega), endM_out (k := 34 + 11 * l) (by omega), endM_out (k := 34 + 11 * l + 1) (by omega), endM_out (k := 34 + 11 * l + 2) (by omega)]
  refine ⟨a1, a2, a3, hs, by decide, fun z => absurd z h1, ⟨by decide, ?_⟩, by decide, ⟨by decide, h0⟩, a10, Or.inl rfl, fun _ => ⟨rfl, rfl, rfl, rfl, rfl⟩⟩
  rw [show (0 : Int32).toInt = 0 from rfl]
  omega
theorem InvM_give {K : Int} {m : Mt} {l : Nat} (h : InvM K m) (hl : l < nb m) (hs : m (34 + 11 * l + 3) = 0) (hf : Fit m (fun n => nil n + wt m (nI l) 2 n)) : InvM K (endM (coJ m nil (wt m (nI l) 2) (nc m)) l 4) := by
  have hc := h.1
  have hb := hc.b.2
  have hn := hc.c.2
  have hw := wt_ok h.pb (nI l) 2
  have g : ∀ k, k < 10 → endM (coJ m nil (wt m (nI l) 2) (nc m)) l 4 k = m k := fun k hk => by rw [endM_out (by omega), coJ_out (by omega) (by omega)]
  have gn : ∀ n w, w < 7 → w ≠ 3 → w ≠ 5 → endM (coJ m nil (wt m (nI l) 2) (nc m)) l 4 (144 + 7 * n + w) = m (144 + 7 * n + w) := fun n w h1 h2 h3 => by rw [endM_out (by omega), coJ_nx h1 h2 h3]
  have gp : ∀ n, n < nc m → endM (coJ m nil (wt m (nI l) 2) (nc m)) l 4 (144 + 7 * n + 3) = m (144 + 7 * n + 3) - wt m (nI l) 2 n := fun n h1 => by rw [endM_out (by omega), coJ_n3 h1]
  have hg : ∀ n, n < nc m → 0 ≤ (nil n + wt m (nI l) 2 n).toInt ∧ (nil n + wt m (nI l) 2 n).toInt ≤ 2000000 := fun n _ => by
    show 0 ≤ ((0 : Int32) + wt m (nI l) 2 n).toInt ∧ ((0 : Int32) + wt m (nI l) 2 n).toInt ≤ 2000000
    rw [Int32.zero_add]; have := hw n; omega
  have pz : ∀ n, n < nc m → (m (144 + 7 * n + 1) = nI l → wt m (nI l) 2 n = m (144 + 7 * n + 3)) ∧ (¬ m (144 + 7 * n + 1) = nI l → wt m (nI l) 2 n = 0) := fun n h1 => ⟨fun z => if_pos ⟨h1, z, Or.inl rfl⟩, fun z => if_neg fun q => z q.2.1⟩
  refine InvM_pay h hl (g 0 (by omega)) (g 1 (by omega)) (g 2 (by omega)) (g 3 (by omega)) (g 5 (by omega)) (by rw [g 4 (by omega)]; exact h.2.2.2.1) (fun i hi => ?_) (fun i h1 h2 => ?_) (fun l' h1 h2 w hw' => ?_) ?_ (fun n hn' w hw' => gn n w (by omega) (by omega) (by omega)) (fun n hn' => ?_) (fun n hn' hne => ?_) (fun _ n hn' he => ?_) ?_
  · rw [endM_out (by omega)]
    exact cash_fit hc h.hd h.2.2.2.2.1 hg hf i hi
  · have d := h.2.2.2.2.2.2.2.2 i h1 h2
    rw [endM_out (by omega), endM_out (by omega), coJ_i h2, coJ_l h2, d.1, d.2]
    exact ⟨by rw [show nil = fun _ => (0 : Int32) from rfl, sG_zero]; rfl, rfl⟩
  · rw [endM_out (by omega), coJ_out (by omega) (by omega)]
  · refine endM_lok (m0 := m) ?_ (by rw [coJ_out (by omega) (by omega)]; exact h.2.1.1) (by decide) (by decide)
    exact (h.2.2.2.2.2.1 l hl).congr (coJ_out (by omega) (by omega)) fun w hw' => coJ_out (by omega) (by omega)
  · rw [gp n hn']
    have b := h.pb n hn'
    by_cases e : m (144 + 7 * n + 1) = nI l
    · rw [(pz n hn').1 e, Int32.sub_self]; decide
    · rw [(pz n hn').2 e, Int32.sub_zero]; exact b
  · rw [gp n hn', (pz n hn').2 hne, Int32.sub_zero, gn n 6 (by omega) (by omega) (by omega)]
    exact ⟨rfl, rfl⟩
  · rw [gn n 6 (by omega) (by omega) (by omega)]
    refine (h.2.2.2.2.2.2.1 n hn').2.2.2.2 ?_
    rw [he, nI_clamp (by omega), hs]
    decide
  · unfold SmK
    rw [endM_in.1]
    exact ⟨fun z => absurd z (by decide), fun z => absurd z (by decide)⟩
theorem ends_m {σ : Sto} {Z : Zt} {E : Mt} {C : Nat → Int} {l : Nat} {s : Int32} (h : RS σ Z E C) (hl : l < 10) (h4 : E (34 + 11 * l + 4) = 0) (h6 : E (34 + 11 * l + 6) = 0) (h7 : E (34 + 11 * l + 7) = 0) : ∃ τ, dc_X10_ends (nI l) s σ = some τ ∧ RS τ Z (endM E l s) C ∧ SameC σ τ := by
  have r1 := h.set (k := 34 + 11 * l + 3) (v := s) (nCash (by omega))
  have r2 := r1.set (k := 34 + 11 * l + 8) (v := 0) (nCash (by omega))
  have r3 := r2.set (k := 34 + 11 * l + 10) (v := -5) (nCash (by omega))
  unfold dc_X10_ends
  rw [be_3 hl, bv_s, be_8 hl, bv_s, be_10 hl, bv_s]
  refine ⟨_, rfl, r3.congr (fun k _ => ?_) (fun _ _ => rfl), SameC.trans (SameC_up (f := 304) rfl) (SameC.trans (SameC_up (f := 304) rfl) (SameC_up (f := 304) rfl))⟩
  by_cases c : 34 + 11 * l + 3 ≤ k ∧ k ≤ 34 + 11 * l + 10
  · obtain ⟨e3, e4, e5, e6, e7, e8, e9, e10⟩ := endM_in (m := E) (l := l) (s := s)
    obtain ⟨w, hw, rfl⟩ : ∃ w, (3 ≤ w ∧ w ≤ 10) ∧ k = 34 + 11 * l + w := ⟨k - (34 + 11 * l), by omega, by omega⟩
    rcases (show w = 3 ∨ w = 4 ∨ w = 5 ∨ w = 6 ∨ w = 7 ∨ w = 8 ∨ w = 9 ∨ w = 10 by omega) with rfl | rfl | rfl | rfl | rfl | rfl | rfl | rfl
    · rw [upd_ne (by omega), upd_ne (by omega), upd_eq, e3]
    · rw [upd_ne (by omega), upd_ne (by omega), upd_ne (by omega), e4, h4]
    · rw [upd_ne (by omega), upd_ne (by omega), upd_ne (by omega), e5]
    · rw [upd_ne (by omega), upd_ne (by omega), upd_ne (by omega), e6, h6]
    · rw [upd_ne (by omega), upd_ne (by omega), upd_ne (by omega), e7, h7]
    · rw [upd_ne (by omega), upd_eq, e8]
    · rw [upd_ne (by omega), upd_ne (by omega), upd_ne (by omega), e9]
    · rw [upd_eq, e10]
  · rw [endM_out c, upd_ne (by omega), upd_ne (by omega), upd_ne (by omega)]
theorem give_m {K : Int} {σ : Sto} {Z : Zt} {l : Nat} {r7 : Int32} (hI : InvM K Z.1) (hl : l < nb Z.1) (hs : Z.1 (34 + 11 * l + 3) = 0) (hR : RMid σ Z Z.1 0) : ∃ τ C, RS τ Z (endM (coJ Z.1 nil (wt Z.1 (nI l) 2) (nc Z.1)) l 4) C ∧ (∀ i, i < 8 → C i = (Z.1 (10 + 3 * i)).toInt + CI Z.1 (fun n => nil n + wt Z.1 (nI l) 2 n) i (nc Z.1)) ∧ SameC σ τ ∧ wh1 (fun (rec9 : Int32 → Sto → Option (Int32 × Sto)) (x11 : Int32) (σ10 : Sto) => (if inb (3 : Int32) 564 then (if (σ10.1 304 0 (3 : Int32).toNatClampNeg) ≤ x11 then (bv (dc_X10_ends (nI l) (4 : Int32) σ10) fun σ13 => (bd (dc_X10_acted r7 σ13) fun r14 σ15 => some (r14, σ15))) else (bd (dc_X10_ofNote x11 (1 : Int32) σ10) fun r16 σ17 => (if r16 = (nI l) then (bd (dc_X10_ofNote x11 (0 : Int32) σ17) fun r18 σ19 => (bd (dc_X10_ofNote x11 (3 : Int32) σ19) fun r20 σ21 => (bv (dc_X10_payOut r18 r20 σ21) fun σ23 => (bd (dc_X10_ofNote x11 (3 : Int32) σ23) fun r24 σ25 => (bv (dc_X10_more x11 (3 : Int32) (-r24) σ25) fun σ27 => rec9 (x11 + 1) σ27))))) else rec9 (x11 + 1) σ17))) else none)) FU (0 : Int32) σ = (bd (dc_X10_acted r7 τ) fun r14 σ15 => some (r14, σ15)) := by
  have hc := hI.1
  obtain ⟨h3, hn⟩ := hc.c
  have ha := hc.a.2
  have hb := hc.b.2
  have hw := wt_ok hI.pb (nI l) 2
  have hcong : ∀ i, CI Z.1 (fun n => nil n + wt Z.1 (nI l) 2 n) i (nc Z.1) = CI Z.1 (wt Z.1 (nI l) 2) i (nc Z.1) := fun i => si_congr fun n _ => by
    show (if Z.1 (144 + 7 * n) = nI i then ((0 : Int32) + wt Z.1 (nI l) 2 n).toInt else 0) = _
    rw [Int32.zero_add]
  refine wh1_inv (T := fun o => ∃ τ C, RS τ Z (endM (coJ Z.1 nil (wt Z.1 (nI l) 2) (nc Z.1)) l 4) C ∧ (∀ i, i < 8 → C i = (Z.1 (10 + 3 * i)).toInt + CI Z.1 (fun n => nil n + wt Z.1 (nI l) 2 n) i (nc Z.1)) ∧ SameC σ τ ∧ o = (bd (dc_X10_acted r7 τ) fun r14 σ15 => some (r14, σ15))) (fun j τ => RS τ Z (coJ Z.1 nil (wt Z.1 (nI l) 2) j) (fun i => (Z.1 (10 + 3 * i)).toInt + CI Z.1 (wt Z.1 (nI l) 2) i j) ∧ SameC σ τ) (nc Z.1) (by omega) (fun j τ hj hP => ?_) (fun τ hP rec => ?_) ⟨(RS.start hI hR).congr (fun k _ => by rw [coJ_0]) (fun i _ => by show (Z.1 (10 + 3 * i)).toInt = (Z.1 (10 + 3 * i)).toInt + 0; omega), SameC.refl σ⟩
  · obtain ⟨p1, p2⟩ := hP
    obtain ⟨i, hi, he⟩ := isI_of hc (hI.hd j hj)
    have e1 : coJ Z.1 nil (wt Z.1 (nI l) 2) j (144 + 7 * j + 1) = Z.1 (144 + 7 * j + 1) := coJ_nj (by omega) (Nat.le_refl j)
    have pre : ∀ rec : Int32 → Sto → Option (Int32 × Sto), ∀ A B : Option (Int32 × Sto), (if (τ.1 304 0 3) ≤ nI j then A else (bd (dc_X10_ofNote (nI j) (1 : Int32) τ) fun r16 σ17 => (if r16 = nI l then B else rec (nI (j + 1)) σ17))) = if Z.1 (144 + 7 * j + 1) = nI l then B else rec (nI (j + 1)) τ := fun rec A B => by
      rw [p1.read (by omega) (nCash (by omega)), coJ_123.2.2, h3, if_neg (by rw [nI_leI (by omega) (by omega)]; omega), show (1 : Int32) = nI 1 from rfl, p1.on (by omega) (by omega), bd_s, e1]
    by_cases c : Z.1 (144 + 7 * j + 1) = nI l
    · have ew : wt Z.1 (nI l) 2 j = Z.1 (144 + 7 * j + 3) := if_pos ⟨hj, c, Or.inl rfl⟩
      obtain ⟨τ1, t1, t2, t3⟩ := p1.pay (i := i) (v := wt Z.1 (nI l) 2 j) (by omega) (hw j).1
      have e3 : coJ Z.1 nil (wt Z.1 (nI l) 2) j (144 + 7 * j + 3) = wt Z.1 (nI l) 2 j := (coJ_nj (by omega) (Nat.le_refl j)).trans ew.symm
      have ej : coJ Z.1 nil (wt Z.1 (nI l) 2) j (144 + 7 * j + 0) = nI i := coJ_j0.trans he
      have t5 := t2.set (k := 144 + 7 * j + 3) (v := upd (coJ Z.1 nil (wt Z.1 (nI l) 2) j) (10 + 3 * i) (coJ Z.1 nil (wt Z.1 (nI l) 2) j (10 + 3 * i) + wt Z.1 (nI l) 2 j) (144 + 7 * j + 3) + -wt Z.1 (nI l) 2 j) (nCash (by omega))
      refine ⟨_, ⟨t5.congr (fun k _ => ?_) (fun i' hi' => ?_), p2.trans (t3.1.trans (SameC_up (f := 304) rfl))⟩, fun rec => ?_⟩
      · rw [coJ_step (by omega) he]
        simp only [upd, nil, Int32.add_zero, Int32.zero_add, ← Int32.sub_eq_add_neg]
        by_cases k1 : k = 10 + 3 * i
        · subst k1
          simp (disch := omega) only [if_pos, if_neg, if_true]
        · by_cases k2 : k = 10 + 3 * i + 1
          · subst k2
            simp (disch := omega) only [if_pos, if_neg, if_true]
          · by_cases k3 : k = 144 + 7 * j + 3
            · subst k3
              simp (disch := omega) only [if_pos, if_neg, if_true]
            · by_cases k5 : k = 144 + 7 * j + 5
              · subst k5
                simp (disch := omega) only [if_pos, if_neg, if_true]
              · simp only [k1, k2, k3, k5, if_false]
      · exact CI_st (C := fun i => (Z.1 (10 + 3 * i)).toInt) (by omega) he i' hi'
      · rw [if_pos ib_3, cl_3, nI_1, p1.read (by omega) (nCash (by omega)), coJ_123.2.2, h3, if_neg (by rw [nI_leI (by omega) (by omega)]; omega), show (1 : Int32) = nI 1 from rfl, p1.on (by omega) (by omega), bd_s, e1, if_pos c, show (0 : Int32) = nI 0 from rfl, p1.on (by omega) (by omega), bd_s, ej, show (3 : Int32) = nI 3 from rfl, p1.on (by omega) (by omega), bd_s, e3, t1, bv_s, t2.on (by omega) (by omega), bd_s, upd_ne (show 144 + 7 * j + 3 ≠ 10 + 3 * i by omega), e3, t2.mo (by omega) (by omega), bv_s, upd_ne (show 144 + 7 * j + 3 ≠ 10 + 3 * i by omega), e3]
    · have ew : wt Z.1 (nI l) 2 j = 0 := if_neg fun q => c q.2.1
      refine ⟨τ, ⟨p1.congr (fun k _ => (coJ_skip rfl ew k).symm) (fun i _ => by show _ + CI _ _ _ _ = _ + CI _ _ _ _; rw [CI_skip ew]), p2⟩, fun rec => ?_⟩
      rw [if_pos ib_3, cl_3, nI_1, p1.read (by omega) (nCash (by omega)), coJ_123.2.2, h3, if_neg (by rw [nI_leI (by omega) (by omega)]; omega), show (1 : Int32) = nI 1 from rfl, p1.on (by omega) (by omega), bd_s, e1, if_neg c]
  · obtain ⟨p1, p2⟩ := hP
    have k := (hI.2.2.2.2.2.1 l hl).2.2.2.2.2.2.2.2.2.2.2 (by rw [hs]; decide)
    obtain ⟨υ, u1, u2, u3⟩ := ends_m (l := l) (s := 4) p1 (by omega) (by rw [coJ_out (by omega) (by omega)]; exact k.1) (by rw [coJ_out (by omega) (by omega)]; exact k.2.1) (by rw [coJ_out (by omega) (by omega)]; exact k.2.2.1)
    refine ⟨υ, _, u2, fun i hi => by rw [hcong i], p2.trans u3, ?_⟩
    rw [if_pos ib_3, cl_3, p1.read (by omega) (nCash (by omega)), coJ_123.2.2, h3, if_pos (by rw [nI_leI (by omega) (by omega)]; omega), u1, bv_s]
theorem q_giveUp {K : Int} {Z : Zt} (hI : InvZ K Z) (a : Int32) : Pair K Z (dc_X9_giveUp a) (dc_X10_giveUp a) := by
  have hc := hI.1.1
  by_cases h : isL Z.1 a
  · obtain ⟨l, hl, rfl⟩ := isL_of hc h
    have hb := hc.b.2
    by_cases hs : Z.1 (34 + 11 * l + 3) = 0
    · have hw := wt_ok hI.1.pb (nI l) 2
      have hg : ∀ n, n < nc Z.1 → 0 ≤ (nil n + wt Z.1 (nI l) 2 n).toInt ∧ (nil n + wt Z.1 (nI l) 2 n).toInt ≤ 2000000 := fun n _ => by
        show 0 ≤ ((0 : Int32) + wt Z.1 (nI l) 2 n).toInt ∧ ((0 : Int32) + wt Z.1 (nI l) 2 n).toInt ≤ 2000000
        rw [Int32.zero_add]; have := hw n; omega
      have pc : ∀ σ, RCl σ Z → ∃ (σ0 : Sto) (r : Int32), FrW 288 σ σ0 ∧ PA σ0 nil (wt Z.1 (nI l) 2) (wt Z.1 (nI l) 2) ∧ ((r = 1 ∧ Fit Z.1 (fun n => nil n + wt Z.1 (nI l) 2 n)) ∨ (r = 0 ∧ ¬ Fit Z.1 (fun n => nil n + wt Z.1 (nI l) 2 n))) ∧ dc_X9_giveUp (nI l) σ = (if r = 0 then some ((-3 : Int32), σ0) else (bv (dc_X2_record 0 σ0) fun σ13 => (bv (dc_X8_carryOut 0 σ13) fun σ15 => (bv (dc_X4_end 0 l (4 : Int32) σ15) fun σ18 => some (pr Z.1 (nI l) 0 + pr Z.1 (nI l) 1, σ18))))) := fun σ hr => by
        obtain ⟨σ0, a1, a2, a3⟩ := give_c hr.1 hc hI.1.kin (nI l)
        obtain ⟨r, b1, b2⟩ := fits_c (a2.cla hr.1) hc a3 hg
        have q := hr.1.2.2.1 l (by omega)
        refine ⟨σ0, r, a2, a3, b2, ?_⟩
        unfold dc_X9_giveUp
        rw [hasL_eq hr.1, bd_s, if_pos h, if_neg (by decide), if_pos (inb_nI (show l < 10 by omega) (by decide)), nI_clamp (by omega), q.2.2.2.1, if_pos hs, xpr_eq hr.1 hc _ 0 (by decide), bd_s, xpr_eq hr.1 hc _ 1 (by decide), bd_s, a1, bv_s, b1, bd_s]
        simp only [if_pos (inb_nI (show l < 10 by omega) (show (10 : Nat) < 2 ^ 31 by decide))]
      have pm : ∀ σ, RMo σ Z → ∃ σ1 τ C, RS τ Z (endM (coJ Z.1 nil (wt Z.1 (nI l) 2) (nc Z.1)) l 4) C ∧ (∀ i, i < 8 → C i = (Z.1 (10 + 3 * i)).toInt + CI Z.1 (fun n => nil n + wt Z.1 (nI l) 2 n) i (nc Z.1)) ∧ SameC σ σ1 ∧ SameC σ1 τ ∧ dc_X10_giveUp (nI l) σ = (bd (dc_X10_acted (pr Z.1 (nI l) 2) τ) fun r14 σ15 => some (r14, σ15)) := fun σ hr => by
        obtain ⟨σ1, p1, p2, p3⟩ := aside_eq hr
        obtain ⟨τ, C, t1, t2, t3, t4⟩ := give_m (r7 := pr Z.1 (nI l) 2) hI.1 hl hs p2
        refine ⟨σ1, τ, C, t1, t2, p3, t3, ?_⟩
        unfold dc_X10_giveUp
        rw [p1, bv_s, isL_eq p2.1 hc, bd_s, if_pos h, if_neg (by decide), of_3 p2.1 (by omega), bd_s, if_pos hs, pr_eq p2.1 hc, bd_s, t4]
      by_cases hf : Fit Z.1 (fun n => nil n + wt Z.1 (nI l) 2 n)
      · refine Pair.act2 (K := K) hI (pr Z.1 (nI l) 2) (endM (coJ Z.1 nil (wt Z.1 (nI l) 2) (nc Z.1)) l 4) (InvM_give hI.1 hl hs hf) (fun σ hr => ?_) (fun σ hr => ?_)
        · obtain ⟨σ0, r, a1, a2, a3, a4⟩ := pc σ hr
          rcases a3 with ⟨rfl, -⟩ | ⟨-, nf⟩
          · obtain ⟨σ1, p1, p2, p3⟩ := record_eq (a1.rcl hr)
            have a2' : PA σ1 nil (wt Z.1 (nI l) 2) (wt Z.1 (nI l) 2) := fun n hn => by rw [p3 288 rfl (by decide)]; exact a2 n hn
            obtain ⟨σ2, b1, b2, b3⟩ := carry_c p2.1 hc hI.1.hd a2'
            obtain ⟨σ3, c1, c2, c3⟩ := end_c (l := l) (s := 4) (by omega) b3
            refine ⟨σ0, σ1, σ3, a1.sameM, p3, p2, ?_, b2.trans c2, c3⟩
            rw [a4, if_neg (by decide), p1, bv_s, b1, bv_s, c1, bv_s, pr2 hI.1.kin]
          · exact absurd hf nf
        · obtain ⟨σ1, τ, C, t1, t2, t3, t4, t5⟩ := pm σ hr
          obtain ⟨υ, u1, u2, u3⟩ := (t1.fin hc hI.1.hd t2 (pr Z.1 (nI l) 2)).1 hf
          rw [t5, u1, bd_s]
          exact ⟨υ, rfl, u2, t3.trans (t4.trans u3)⟩
      · refine ⟨-3, Z, hI, fun σ hr => ?_, fun σ hr => ?_⟩
        · obtain ⟨σ0, r, a1, a2, a3, a4⟩ := pc σ hr
          rcases a3 with ⟨-, z⟩ | ⟨rfl, -⟩
          · exact absurd z hf
          · rw [a4, if_pos rfl]
            exact ⟨σ0, rfl, a1.rcl hr, a1.sameM⟩
        · obtain ⟨σ1, τ, C, t1, t2, t3, t4, t5⟩ := pm σ hr
          obtain ⟨υ, u1, u2, u3⟩ := (t1.fin hc hI.1.hd t2 (pr Z.1 (nI l) 2)).2 hf
          rw [t5, u1, bd_s]
          exact ⟨υ, rfl, u2, t3.trans (t4.trans u3)⟩
    · refine Pair.no hI (-4) (fun σ hr => ?_) (fun σ hr => ?_)
      · have q := hr.1.2.2.1 l (by omega)
        unfold dc_X9_giveUp
        rw [hasL_eq hr.1, bd_s, if_pos h, if_neg (by decide), if_pos (inb_nI (show l < 10 by omega) (by decide)), nI_clamp (by omega), q.2.2.2.1, if_neg hs]
      · obtain ⟨σ1, p1, p2, p3⟩ := aside_eq hr
        unfold dc_X10_giveUp
        rw [p1, bv_s, isL_eq p2.1 hc, bd_s, if_pos h, if_neg (by decide), of_3 p2.1 (by omega), bd_s, if_neg hs]
        exact ⟨σ1, rfl, p2.out, p3⟩
  · refine Pair.no hI (-1) (fun σ hr => ?_) (fun σ hr => ?_)
    · unfold dc_X9_giveUp
      rw [hasL_eq hr.1, bd_s, if_neg h, if_pos rfl]
    · obtain ⟨σ1, p1, p2, p3⟩ := aside_eq hr
      unfold dc_X10_giveUp
      rw [p1, bv_s, isL_eq p2.1 hc, bd_s, if_neg h, if_pos rfl]
      exact ⟨σ1, rfl, p2.out, p3⟩
