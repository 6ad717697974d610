/-! acts: a note sold; months pass -/
theorem xx10 (k c : Nat) : nI k + nI c = nI (k + c) := nI_add k c
theorem InvM_notes {K : Int} {m m' : Mt} (h : InvM K m) (ho : ∀ k, 34 ≤ k → k < 144 → m' k = m k) (hlo : ∀ k, k < 10 → m' k = m k) (hc : ∀ i, i < 8 → 0 ≤ (m' (10 + 3 * i)).toInt) (hd : ∀ i, na m ≤ i → i < 8 → m' (10 + 3 * i + 1) = 0 ∧ m' (10 + 3 * i + 2) = 0) (hN : ∀ n, n < nc m → NoK m' (144 + 7 * n)) (hS : ∀ l, l < nb m → siN m' (nI l) = siN m (nI l)) : InvM K m' := by
  obtain ⟨i1, i2, i3, i4, i5, i6, i7, i8, i9⟩ := h
  have e0 := hlo 0 (by omega)
  have e1 := hlo 1 (by omega)
  have e2 := hlo 2 (by omega)
  have e3 := hlo 3 (by omega)
  have hb := i1.b.2
  refine ⟨by unfold Cnt; rw [e1, e2, e3]; exact i1, by rw [e0]; exact i2, by rw [hlo 5 (by omega)]; exact i3, by rw [hlo 4 (by omega)]; exact i4, hc, fun l hl => ?_, fun n hn' => ?_, fun l hl => ?_, fun i h1 h2 => ?_⟩
  · have hl' : l < nb m := by unfold nb at hl; rw [e2] at hl; exact hl
    have q := i6 l hl'
    unfold LoK at q ⊢
    rw [e0, ho (34 + 11 * l) (by omega) (by omega), ho (34 + 11 * l + 1) (by omega) (by omega), ho (34 + 11 * l + 2) (by omega) (by omega), ho (34 + 11 * l + 3) (by omega) (by omega), ho (34 + 11 * l + 4) (by omega) (by omega), ho (34 + 11 * l + 5) (by omega) (by omega), ho (34 + 11 * l + 6) (by omega) (by omega), ho (34 + 11 * l + 7) (by omega) (by omega), ho (34 + 11 * l + 8) (by omega) (by omega), ho (34 + 11 * l + 9) (by omega) (by omega), ho (34 + 11 * l + 10) (by omega) (by omega)]
    exact q
  · exact hN n (by unfold nc at hn'; rw [e3] at hn'; exact hn')
  · have hl' : l < nb m := by unfold nb at hl; rw [e2] at hl; exact hl
    have q := i8 l hl'
    unfold SmK at q ⊢
    rw [hS l hl', ho (34 + 11 * l) (by omega) (by omega), ho (34 + 11 * l + 3) (by omega) (by omega), ho (34 + 11 * l + 4) (by omega) (by omega)]
    exact q
  · exact hd i (by unfold na at h1 ⊢; rw [e1] at h1; exact h1) h2
def sln (m : Mt) (n s i : Nat) (p : Int32) : Mt := upd (upd (upd m (10 + 3 * s) (m (10 + 3 * s) + p)) (10 + 3 * i) (m (10 + 3 * i) - p)) (144 + 7 * n) (nI i)
theorem InvM_sln {K : Int} {m : Mt} {n s i : Nat} {p : Int32} (h : InvM K m) (hn : n < nc m) (hi : i < na m) (hs : s < na m) (hne : s ≠ i) (h1 : 0 ≤ p.toInt) (h2 : p.toInt ≤ (m (10 + 3 * i)).toInt) (h3 : (m (10 + 3 * s)).toInt + p.toInt ≤ 2147483647) : InvM K (sln m n s i p) := by
  have ha := h.1.a.2
  have hcn := h.1.c.2
  have cs := h.2.2.2.2.1 s (by omega)
  have ci := h.2.2.2.2.1 i (by omega)
  refine InvM_notes h (fun k _ _ => ?_) (fun k _ => ?_) (fun k hk => ?_) (fun k q1 q2 => ?_) (fun j hj => ?_) (fun l hl => ?_)
  · unfold sln; rw [upd_ne (by omega), upd_ne (by omega), upd_ne (by omega)]
  · unfold sln; rw [upd_ne (by omega), upd_ne (by omega), upd_ne (by omega)]
  · unfold sln
    rw [upd_ne (by omega)]
    by_cases e : k = i
    · rw [e, upd_eq, tsub] <;> (have := thi (m (10 + 3 * i)); omega)
    · rw [upd_ne (by omega)]
      by_cases e2 : k = s
      · rw [e2, upd_eq, tadd] <;> omega
      · rw [upd_ne (by omega)]; exact h.2.2.2.2.1 k hk
  · unfold sln
    rw [upd_ne (by omega), upd_ne (by omega), upd_ne (by omega), upd_ne (by omega), upd_ne (by omega), upd_ne (by omega)]
    exact h.2.2.2.2.2.2.2.2 k q1 q2
  · have g : ∀ k, k ≠ 144 + 7 * n → ¬ (10 ≤ k ∧ k < 34) → sln m n s i p k = m k := fun k q1 q2 => by unfold sln; rw [upd_ne q1, upd_ne (by omega), upd_ne (by omega)]
    obtain ⟨u1, u2, u3, u4, u5⟩ := h.2.2.2.2.2.2.1 j hj
    have ul : (m (144 + 7 * j + 1)).toNatClampNeg < nb m := by
      have := clI u2.1
      have := clI h.1.2.1.1
      have := u2.2
      unfold nb
      omega
    have hb := h.1.b.2
    unfold NoK isI isL
    rw [g 1 (by omega) (by omega), g 2 (by omega) (by omega), g (144 + 7 * j + 1) (by omega) (by omega), g (144 + 7 * j + 2) (by omega) (by omega), g (144 + 7 * j + 3) (by omega) (by omega), g (144 + 7 * j + 6) (by omega) (by omega), g (34 + 11 * (m (144 + 7 * j + 1)).toNatClampNeg + 3) (by omega) (by omega)]
    refine ⟨?_, u2, u3, u4, u5⟩
    by_cases e : j = n
    · subst e
      unfold sln
      rw [upd_eq]
      exact isI_nI h.1 hi
    · rw [g _ (by omega) (by omega)]; exact u1
  · unfold siN nc
    rw [show sln m n s i p 3 = m 3 by unfold sln; rw [upd_ne (by omega), upd_ne (by omega), upd_ne (by omega)]]
    refine si_congr fun j _ => ?_
    have e1 : sln m n s i p (144 + 7 * j + 1) = m (144 + 7 * j + 1) := by unfold sln; rw [upd_ne (by omega), upd_ne (by omega), upd_ne (by omega)]
    have e3 : sln m n s i p (144 + 7 * j + 3) = m (144 + 7 * j + 3) := by unfold sln; rw [upd_ne (by omega), upd_ne (by omega), upd_ne (by omega)]
    rw [e1, e3]
theorem csn_pre {σ : Sto} {Z : Zt} {n i s l : Nat} {p : Int32} (hr : RCl σ Z) (hc : Cnt Z.1) (hn : n < nc Z.1) (hi : i < na Z.1) (hs : s < na Z.1) (hl : l < nb Z.1) (hN : isN Z.1 (nI n)) (hI : isI Z.1 (nI i)) (es : Z.1 (144 + 7 * n) = nI s) (el : Z.1 (144 + 7 * n + 1) = nI l) :
    dc_X9_sellNote (nI n) (nI i) p σ = if ¬ ((0 : Int32).toInt ≤ p.toInt ∧ p.toInt ≤ (99999 : Int32).toInt) then some (-2, σ) else if nI s = nI i then some (-2, σ) else if ¬ Z.1 (34 + 11 * l + 3) = 1 then some (-4, σ) else if p ≤ Z.1 (10 + 3 * i) then (if p ≤ 2147483647 - Z.1 (10 + 3 * s) then (bv (dc_X2_record 0 σ) fun σ15 => (bv (dc_X5_give 0 (nI i) (-p) σ15) fun σ17 => (bv (dc_X5_give 0 (nI s) p σ17) fun σ19 => some ((up σ19 96 0 n (nI i)).1 99 0 n, up σ19 96 0 n (nI i))))) else some (-3, σ)) else some (-4, σ) := by
  have hc60 := hc.c.2
  have q := hr.1.2.2.2 n (by omega)
  unfold dc_X9_sellNote
  rw [hasN_eq hr.1, bd_s, if_pos hN, if_neg (by decide), hasI_eq hr.1, bd_s, if_pos hI, if_neg (by decide), if_pos (inb_nI (show n < 60 by omega) (by decide)), isPc_eq, bd_s, rng, nI_clamp (by omega), q.1, es]
  by_cases hp : (0 : Int32).toInt ≤ p.toInt ∧ p.toInt ≤ (99999 : Int32).toInt
  · rw [if_pos hp, if_neg (by decide), if_neg (not_not_intro hp)]
    by_cases e : nI s = nI i
    · rw [if_pos e, if_pos e]
    · rw [if_neg e, if_neg e, q.2.1, el, xruns_eq hr.1 hc hl, bd_s]
      by_cases hru : Z.1 (34 + 11 * l + 3) = 1
      · rw [if_pos hru, if_neg (by decide), if_neg (not_not_intro hru), xcash_eq hr.1 hc hi, bd_s, xcash_eq hr.1 hc hs, bd_s]
      · rw [if_neg hru, if_pos rfl, if_pos hru]
  · rw [if_neg hp, if_pos rfl, if_pos hp]
theorem msn_pre {σ σ1 : Sto} {Z : Zt} {n i s l : Nat} {p : Int32} (hc : Cnt Z.1) (p1 : dc_X10_aside σ = some σ1) (p2 : RMid σ1 Z Z.1 0) (hn : n < nc Z.1) (hi : i < na Z.1) (hs : s < na Z.1) (hl : l < nb Z.1) (hN : isN Z.1 (nI n)) (hI : isI Z.1 (nI i)) (es : Z.1 (144 + 7 * n) = nI s) (el : Z.1 (144 + 7 * n + 1) = nI l) :
    dc_X10_sellNote (nI n) (nI i) p σ = if ¬ ((0 : Int32).toInt ≤ p.toInt ∧ p.toInt ≤ (99999 : Int32).toInt) then some (-2, σ1) else if nI s = nI i then some (-2, σ1) else if ¬ Z.1 (34 + 11 * l + 3) = 1 then some (-4, σ1) else if p ≤ Z.1 (10 + 3 * i) then (bv (dc_X10_payOut (nI s) p σ1) fun σ18 => (bd (dc_X10_ofNote (nI n) 0 (up σ18 304 0 (10 + 3 * i) ((σ18.1 304 0 (10 + 3 * i)) - p))) fun r19 σ20 => (bv (dc_X10_more (nI n) 0 (nI i - r19) σ20) fun σ22 => (bd (dc_X10_ofNote (nI n) 3 σ22) fun r23 σ24 => (bd (dc_X10_acted r23 σ24) fun r25 σ26 => some (r25, σ26)))))) else some (-4, σ1) := by
  have hc60 := hc.c.2
  have ha8 := hc.a.2
  have hb10 := hc.b.2
  unfold dc_X10_sellNote
  rw [p1, bv_s, isN_eq p2.1 hc, bd_s, if_pos hN, if_neg (by decide), isI_eq p2.1 hc, bd_s, if_pos hI, if_neg (by decide), in_eq, bd_s, rng]
  by_cases hp : (0 : Int32).toInt ≤ p.toInt ∧ p.toInt ≤ (99999 : Int32).toInt
  · rw [if_pos hp, if_neg (by decide), if_neg (not_not_intro hp), on_0 p2.1 (by omega), bd_s, Nat.add_zero, es]
    by_cases e : nI s = nI i
    · rw [if_pos e, if_pos e]
    · rw [if_neg e, if_neg e, on_1 p2.1 (by omega), bd_s, el, runs_eq p2.1 (by omega), bd_s]
      by_cases hru : Z.1 (34 + 11 * l + 3) = 1
      · rw [if_pos hru, if_neg (by decide), if_neg (not_not_intro hru), x10]
        simp only [if_pos (inb_nI (show 10 + 3 * i < 564 by omega) (by decide)), nI_clamp (show 10 + 3 * i < 2 ^ 31 by omega)]
        rw [p2.1 _ (by omega), on_0 p2.1 (by omega), bd_s, Nat.add_zero, es]
      · rw [if_neg hru, if_pos rfl, if_pos hru]
  · rw [if_neg hp, if_pos rfl, if_pos hp]
theorem sln_c {σ σ1 : Sto} {Z : Zt} {n i s : Nat} {p : Int32} (hc : Cnt Z.1) (p1 : dc_X2_record 0 σ = some σ1) (p2 : Cla σ1 0 Z.1) (hn : n < nc Z.1) (hi : i < na Z.1) (hs : s < na Z.1) (hne : s ≠ i) :
    ∃ τ, (bv (dc_X2_record 0 σ) fun σ15 => (bv (dc_X5_give 0 (nI i) (-p) σ15) fun σ17 => (bv (dc_X5_give 0 (nI s) p σ17) fun σ19 => some ((up σ19 96 0 n (nI i)).1 99 0 n, up σ19 96 0 n (nI i))))) = some (Z.1 (144 + 7 * n + 3), τ) ∧ FrJ 0 σ1 τ ∧ Cla τ 0 (sln Z.1 n s i p) := by
  have hc60 := hc.c.2
  have ha8 := hc.a.2
  have q' := p2.2.2.2 n (by omega)
  have c1 := Cla_up48 (v := Z.1 (10 + 3 * i) + -p) (i0 := i) (by omega) p2
  have hc1 : Cnt (upd Z.1 (10 + 3 * i) (Z.1 (10 + 3 * i) + -p)) := by
    unfold Cnt; rw [upd_ne (by omega), upd_ne (by omega), upd_ne (by omega)]; exact hc
  have e2 : upd Z.1 (10 + 3 * i) (Z.1 (10 + 3 * i) + -p) (10 + 3 * s) = Z.1 (10 + 3 * s) := upd_ne (by omega)
  have hs1 : s < na (upd Z.1 (10 + 3 * i) (Z.1 (10 + 3 * i) + -p)) := by unfold na; rw [upd_ne (by omega)]; exact hs
  refine ⟨up (up (up σ1 48 0 i (Z.1 (10 + 3 * i) + -p)) 48 0 s (Z.1 (10 + 3 * s) + p)) 96 0 n (nI i), ?_, FrJ_up rfl (FrJ_up rfl (FrJ_up rfl (FrJ.refl 0 σ1))), ?_⟩
  · rw [p1, bv_s, xgive_eq p2 hc hi, bv_s, xgive_eq c1 hc1 hs1, bv_s, e2, up_ne (by decide), up_ne (by decide), up_ne (by decide), q'.2.2.2.1]
  · have c3 := Cla_up96 (v := nI i) (n0 := n) (by omega) (Cla_up48 (v := Z.1 (10 + 3 * s) + p) (i0 := s) (by omega) c1)
    have e : upd (upd (upd Z.1 (10 + 3 * i) (Z.1 (10 + 3 * i) + -p)) (10 + 3 * s) (Z.1 (10 + 3 * s) + p)) (144 + 7 * n) (nI i) = sln Z.1 n s i p := by
      unfold sln
      rw [Int32.sub_eq_add_neg]
      funext k
      simp only [upd]
      by_cases k1 : k = 144 + 7 * n
      · rw [if_pos k1, if_pos k1]
      · rw [if_neg k1, if_neg k1]
        by_cases k2 : k = 10 + 3 * s
        · rw [if_pos k2, if_neg (by omega), if_pos k2]
        · rw [if_neg k2, if_neg k2]
    rw [← e]
    exact c3
theorem sln_m {σ1 : Sto} {Z : Zt} {n i s : Nat} {p : Int32} (hc : Cnt Z.1) (p2 : RMid σ1 Z Z.1 0) (hn : n < nc Z.1) (hi : i < na Z.1) (hs : s < na Z.1) (es : Z.1 (144 + 7 * n) = nI s) (h2 : (Z.1 (10 + 3 * s)).toInt + p.toInt ≤ 2147483647) (hne : s ≠ i) :
    ∃ τ, (bv (dc_X10_payOut (nI s) p σ1) fun σ18 => (bd (dc_X10_ofNote (nI n) 0 (up σ18 304 0 (10 + 3 * i) ((σ18.1 304 0 (10 + 3 * i)) - p))) fun r19 σ20 => (bv (dc_X10_more (nI n) 0 (nI i - r19) σ20) fun σ22 => (bd (dc_X10_ofNote (nI n) 3 σ22) fun r23 σ24 => (bd (dc_X10_acted r23 σ24) fun r25 σ26 => some (r25, σ26)))))) = some (Z.1 (144 + 7 * n + 3), τ) ∧ RMo τ (pushZ Z (sln Z.1 n s i p)) ∧ SameC σ1 τ := by
  have hc60 := hc.c.2
  have ha8 := hc.a.2
  obtain ⟨σ2, s1, s2, s3⟩ := payOut_ok (c := p) p2 (show s < 8 by omega) h2
  have e1 : σ2.1 304 0 (10 + 3 * i) = Z.1 (10 + 3 * i) := by rw [s2.1 _ (by omega), upd_ne (by omega)]
  have r3 := RMid_now (k := 10 + 3 * i) (v := Z.1 (10 + 3 * i) - p) s2
  have e5 : upd (upd Z.1 (10 + 3 * s) (Z.1 (10 + 3 * s) + p)) (10 + 3 * i) (Z.1 (10 + 3 * i) - p) (144 + 7 * n) = nI s := by rw [upd_ne (by omega), upd_ne (by omega), es]
  have e6 : nI s + (nI i - nI s) = nI i := by rw [Int32.sub_eq_add_neg, Int32.add_comm (nI i), ← Int32.add_assoc, ← Int32.sub_eq_add_neg, Int32.sub_self, Int32.zero_add]
  have r4 : RMid _ Z (sln Z.1 n s i p) 0 := RMid_now (k := 144 + 7 * n) (v := nI i) r3
  have e7 : sln Z.1 n s i p (144 + 7 * n + 3) = Z.1 (144 + 7 * n + 3) := by unfold sln; rw [upd_ne (by omega), upd_ne (by omega), upd_ne (by omega)]
  obtain ⟨υ, v1, v2, v3⟩ := acted_eq (Z.1 (144 + 7 * n + 3)) r4
  rw [s1, bv_s, e1, on_0 r3.1 (by omega), bd_s, Nat.add_zero, e5, mo_0 r3.1 (by omega), bv_s, Nat.add_zero, e5, e6, on_3 r4.1 (by omega), bd_s, e7, v1]
  exact ⟨υ, rfl, v2, s3.1.trans (SameC.trans (SameC.trans (SameC_up (f := 304) rfl) (SameC_up (f := 304) rfl)) v3)⟩
theorem sln_mno {σ1 : Sto} {Z : Zt} {n i s : Nat} {p : Int32} (hc : Cnt Z.1) (p2 : RMid σ1 Z Z.1 0) (hn : n < nc Z.1) (hi : i < na Z.1) (hs : s < na Z.1) (h2 : ¬ (Z.1 (10 + 3 * s)).toInt + p.toInt ≤ 2147483647) :
    ∃ τ, (bv (dc_X10_payOut (nI s) p σ1) fun σ18 => (bd (dc_X10_ofNote (nI n) 0 (up σ18 304 0 (10 + 3 * i) ((σ18.1 304 0 (10 + 3 * i)) - p))) fun r19 σ20 => (bv (dc_X10_more (nI n) 0 (nI i - r19) σ20) fun σ22 => (bd (dc_X10_ofNote (nI n) 3 σ22) fun r23 σ24 => (bd (dc_X10_acted r23 σ24) fun r25 σ26 => some (r25, σ26)))))) = some (-3, τ) ∧ RMo τ Z ∧ SameC σ1 τ := by
  have hc60 := hc.c.2
  have ha8 := hc.a.2
  obtain ⟨σ2, s1, s2, s3⟩ := payOut_no (c := p) p2 (show s < 8 by omega) (fun z => h2 z.2)
  have e1 : σ2.1 304 0 (10 + 3 * i) = Z.1 (10 + 3 * i) := s2.1 _ (by omega)
  have r3 := RMid_now (k := 10 + 3 * i) (v := Z.1 (10 + 3 * i) - p) s2
  rw [s1, bv_s, e1, on_0 r3.1 (by omega), bd_s, mo_0 r3.1 (by omega), bv_s]
  have r4 := RMid_now (k := 144 + 7 * n + 0) (v := upd Z.1 (10 + 3 * i) (Z.1 (10 + 3 * i) - p) (144 + 7 * n + 0) + (nI i - upd Z.1 (10 + 3 * i) (Z.1 (10 + 3 * i) - p) (144 + 7 * n + 0))) r3
  rw [on_3 r4.1 (by omega), bd_s]
  obtain ⟨υ, v1, v2, v3⟩ := acted_over (upd (upd Z.1 (10 + 3 * i) (Z.1 (10 + 3 * i) - p)) (144 + 7 * n + 0) (upd Z.1 (10 + 3 * i) (Z.1 (10 + 3 * i) - p) (144 + 7 * n + 0) + (nI i - upd Z.1 (10 + 3 * i) (Z.1 (10 + 3 * i) - p) (144 + 7 * n + 0))) (144 + 7 * n + 3)) (by decide) r4
  rw [v1]
  exact ⟨υ, rfl, v2, s3.1.trans (SameC.trans (SameC.trans (SameC_up (f := 304) rfl) (SameC_up (f := 304) rfl)) v3)⟩
theorem room_i {x y : Int32} (h : 0 ≤ x.toInt) : (y ≤ (2147483647 : Int32) - x) ↔ x.toInt + y.toInt ≤ 2147483647 := by
  have es2 : ((2147483647 : Int32) - x).toInt = 2147483647 - x.toInt := by
    have := thi x
    rw [tsub] <;> rw [show (2147483647 : Int32).toInt = 2147483647 from rfl] <;> omega
  rw [tle, es2]
  omega
theorem q_sellNote {K : Int} {Z : Zt} (hI : InvZ K Z) (a b p : Int32) : Pair K Z (dc_X9_sellNote a b p) (dc_X10_sellNote a b p) := by
  have hc := hI.1.1
  by_cases h : isN Z.1 a
  · by_cases hi0 : isI Z.1 b
    · obtain ⟨n, hn, rfl⟩ := isN_of hc h
      obtain ⟨i, hi, rfl⟩ := isI_of hc hi0
      have ha8 := hc.a.2
      obtain ⟨u1, u2, u3, u4, u5⟩ := hI.1.2.2.2.2.2.2.1 n hn
      obtain ⟨s, hs, es⟩ := isI_of hc u1
      obtain ⟨l, hl, el⟩ := isL_of hc u2
      have cs := hI.1.2.2.2.2.1 s (by omega)
      clear u3 u4 u5
      have pc : ∀ σ, RCl σ Z → _ := fun σ hr => csn_pre (p := p) hr hc hn hi hs hl h hi0 es el
      have pm : ∀ σ σ1, dc_X10_aside σ = some σ1 → RMid σ1 Z Z.1 0 → _ := fun σ σ1 p1 p2 => msn_pre (p := p) hc p1 p2 hn hi hs hl h hi0 es el
      by_cases hp : (0 : Int32).toInt ≤ p.toInt ∧ p.toInt ≤ (99999 : Int32).toInt
      · by_cases hne : s = i
        · refine Pair.no hI (-2) (fun σ hr => ?_) (fun σ hr => ?_)
          · rw [pc σ hr, if_neg (not_not_intro hp), if_pos (by rw [hne])]
          · obtain ⟨σ1, p1, p2, p3⟩ := aside_eq hr
            rw [pm σ σ1 p1 p2, if_neg (not_not_intro hp), if_pos (by rw [hne])]
            exact ⟨σ1, rfl, p2.out, p3⟩
        · have hne2 : ¬ nI s = nI i := by rw [nI_eq (by omega) (by omega)]; exact hne
          by_cases hru : Z.1 (34 + 11 * l + 3) = 1
          · by_cases hca : p ≤ Z.1 (10 + 3 * i)
            · have eo := room_i (y := p) cs
              by_cases h2 : (Z.1 (10 + 3 * s)).toInt + p.toInt ≤ 2147483647
              · refine Pair.act hI (Z.1 (144 + 7 * n + 3)) (sln Z.1 n s i p) (InvM_sln hI.1 hn hi hs hne hp.1 ((tle _ _).mp hca) h2) (fun σ hr => ?_) (fun σ hr => ?_)
                · obtain ⟨σ1, p1, p2, p3⟩ := record_eq hr
                  obtain ⟨τ, t1, t2, t3⟩ := sln_c (p := p) hc p1 p2.1 hn hi hs hne
                  refine ⟨σ1, τ, p3, p2, ?_, t2, t3⟩
                  rw [pc σ hr, if_neg (not_not_intro hp), if_neg hne2, if_neg (not_not_intro hru), if_pos hca, if_pos (eo.mpr h2)]
                  exact t1
                · obtain ⟨σ1, p1, p2, p3⟩ := aside_eq hr
                  obtain ⟨τ, t1, t2, t3⟩ := sln_m (p := p) hc p2 hn hi hs es h2 hne
                  refine ⟨τ, ?_, t2, p3.trans t3⟩
                  rw [pm σ σ1 p1 p2, if_neg (not_not_intro hp), if_neg hne2, if_neg (not_not_intro hru), if_pos hca]
                  exact t1
              · refine Pair.no hI (-3) (fun σ hr => ?_) (fun σ hr => ?_)
                · rw [pc σ hr, if_neg (not_not_intro hp), if_neg hne2, if_neg (not_not_intro hru), if_pos hca, if_neg (fun z => h2 (eo.mp z))]
                · obtain ⟨σ1, p1, p2, p3⟩ := aside_eq hr
                  obtain ⟨τ, t1, t2, t3⟩ := sln_mno (p := p) hc p2 hn hi hs h2
                  refine ⟨τ, ?_, t2, p3.trans t3⟩
                  rw [pm σ σ1 p1 p2, if_neg (not_not_intro hp), if_neg hne2, if_neg (not_not_intro hru), if_pos hca]
                  exact t1
            · refine Pair.no hI (-4) (fun σ hr => ?_) (fun σ hr => ?_)
              · rw [pc σ hr, if_neg (not_not_intro hp), if_neg hne2, if_neg (not_not_intro hru), if_neg hca]
              · obtain ⟨σ1, p1, p2, p3⟩ := aside_eq hr
                rw [pm σ σ1 p1 p2, if_neg (not_not_intro hp), if_neg hne2, if_neg (not_not_intro hru), if_neg hca]
                exact ⟨σ1, rfl, p2.out, p3⟩
          · refine Pair.no hI (-4) (fun σ hr => ?_) (fun σ hr => ?_)
            · rw [pc σ hr, if_neg (not_not_intro hp), if_neg hne2, if_pos hru]
            · obtain ⟨σ1, p1, p2, p3⟩ := aside_eq hr
              rw [pm σ σ1 p1 p2, if_neg (not_not_intro hp), if_neg hne2, if_pos hru]
              exact ⟨σ1, rfl, p2.out, p3⟩
      · refine Pair.no hI (-2) (fun σ hr => ?_) (fun σ hr => ?_)
        · rw [pc σ hr, if_pos hp]
        · obtain ⟨σ1, p1, p2, p3⟩ := aside_eq hr
          rw [pm σ σ1 p1 p2, if_pos hp]
          exact ⟨σ1, rfl, p2.out, p3⟩
    · refine Pair.no hI (-1) (fun σ hr => ?_) (fun σ hr => ?_)
      · unfold dc_X9_sellNote
        rw [hasN_eq hr.1, bd_s, if_pos h, if_neg (by decide), hasI_eq hr.1, bd_s, if_neg hi0, if_pos rfl]
      · obtain ⟨σ1, p1, p2, p3⟩ := aside_eq hr
        unfold dc_X10_sellNote
        rw [p1, bv_s, isN_eq p2.1 hc, bd_s, if_pos h, if_neg (by decide), isI_eq p2.1 hc, bd_s, if_neg hi0, if_pos rfl]
        exact ⟨σ1, rfl, p2.out, p3⟩
  · refine Pair.no hI (-1) (fun σ hr => ?_) (fun σ hr => ?_)
    · unfold dc_X9_sellNote
      rw [hasN_eq hr.1, bd_s, if_neg h, if_pos rfl]
    · obtain ⟨σ1, p1, p2, p3⟩ := aside_eq hr
      unfold dc_X10_sellNote
      rw [p1, bv_s, isN_eq p2.1 hc, bd_s, if_neg h, if_pos rfl]
      exact ⟨σ1, rfl, p2.out, p3⟩
