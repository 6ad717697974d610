/-! the fundings of the text, on both sides -/
theorem RCx.frJ {d : Nat} {σ τ : Sto} {Z : Zt} (h : FrJ d σ τ) (hd : d < 2) (hr : RCx σ Z) : RCx τ Z := by
  obtain ⟨r1, r2, r3, r4, r5, r6, r7, r8⟩ := hr
  refine ⟨?_, fun s hs => ?_, ?_, ?_, ?_, fun q hq => h.cla (by omega) (r6 q hq), ?_, ?_⟩
  · rw [h.1 33 rfl]; exact r1
  · rw [h.2.2]
    have := r3 s (Nat.lt_of_lt_of_le hs r1.2)
    exact h.cla (by omega) (r2 s hs)
  · rw [h.2.2]; exact r3
  · rw [h.2.2]; exact r4
  · rw [h.1 147 rfl]; exact r5
  · rw [h.1 17 rfl]; exact r7
  · rw [h.1 256 rfl]; exact r8
theorem RCl.congrF {σ τ : Sto} {Z : Zt} (h : ∀ f, 4 ≤ f → f ≠ 19 → τ.1 f = σ.1 f) (h2 : τ.2 = σ.2) (hr : RCl σ Z) : RCl τ Z := by
  have hM : ∀ f, isM f = true → τ.1 f = σ.1 f := fun f hf => h f (by revert hf; unfold isM; simp only [Bool.or_eq_true, Bool.and_eq_true, decide_eq_true_eq]; omega) (by rintro rfl; cases hf)
  obtain ⟨r0, r1, r2, r3, r4, r5, r6, r7, r8⟩ := hr
  refine ⟨r0.congrM fun f hf => by rw [hM f hf], ?_, fun s hs => ?_, ?_, ?_, ?_, fun q hq => (r6 q hq).congrM fun f hf => by rw [hM f hf], ?_, ?_⟩
  · rw [h 33 (by decide) (by decide)]; exact r1
  · rw [h2]; exact (r2 s hs).congrM fun f hf => by rw [hM f hf]
  · rw [h2]; exact r3
  · rw [h2]; exact r4
  · rw [h 147 (by decide) (by decide)]; exact r5
  · rw [h 17 (by decide) (by decide)]; exact r7
  · rw [h 256 (by decide) (by decide)]; exact r8
/-- the market that was before is recorded -/
theorem rec2b {σ : Sto} {h : Nat} {H : Nat → Mt} {m m' : Mt} {x : Option Mt × (Nat × (Nat → Int32))} (hh : h < 4) (hm' : Cla σ 1 m') (hr : RCl σ (m, (h, H), x)) :
    ∃ τ, (if inb (σ.1 33 0 0) 4 then (bv (dc_X5_copyFrom (σ.2 (σ.1 33 0 0).toNatClampNeg) 1 σ) fun σ5 => some (up σ5 33 0 0 ((σ5.1 33 0 0) + (1 : Int32)))) else none) = some τ ∧ RCl τ (m, (h + 1, fun s => if s = h then m' else H s), x) ∧ (∀ f, isM f = false → f ≠ 33 → τ.1 f = σ.1 f) := by
  obtain ⟨hm, ⟨r1, r1'⟩, r2, r3, r4, r5, r6, r7, r8⟩ := hr
  have r1 : σ.1 33 0 0 = nI h := r1
  have hd := r3 h hh
  obtain ⟨τ, c1, c2, c3⟩ := copy_eq (σ := σ) (d := σ.2 h) (s := 1) (by omega)
  rw [r1, if_pos (inb_nI hh (by decide)), nI_clamp (by omega), c1, bv_s, c2.1 33 rfl, r1, nI_1]
  refine ⟨_, rfl, ⟨Cla_up rfl (c2.cla (by omega) hm), ⟨up_eq, by show h + 1 ≤ 4; omega⟩, fun s hs => Cla_up rfl ?_, ?_, ?_, ?_, fun q hq => Cla_up rfl (c2.cla (by omega) (r6 q hq)), ?_, ?_⟩, fun f h1 h2 => ?_⟩
  · have hs' : s < h + 1 := hs
    rw [show (up τ 33 0 0 (nI (h + 1))).2 = σ.2 from c2.2.2]
    show Cla τ (σ.2 s) (if s = h then m' else H s)
    by_cases e : s = h
    · rw [if_pos e, e]; exact c3 m' hm'
    · rw [if_neg e]
      exact c2.cla (fun q => e (r4 s h (by omega) hh q)) (r2 s (by show s < h; omega))
  · rw [show (up τ 33 0 0 (nI (h + 1))).2 = σ.2 from c2.2.2]; exact r3
  · rw [show (up τ 33 0 0 (nI (h + 1))).2 = σ.2 from c2.2.2]; exact r4
  · rw [up_f (by decide), c2.1 147 rfl]; exact r5
  · rw [up_f (by decide), c2.1 17 rfl]; exact r7
  · rw [up_f (by decide), c2.1 256 rfl]; exact r8
  · rw [up_f h2, c2.1 f h1]
theorem record1_eq {σ : Sto} {Z : Zt} {m : Mt} (h0 : Cla σ 0 m) (h1 : Cla σ 1 Z.1) (hx : RCx σ Z) : ∃ τ, dc_X2_record 1 σ = some τ ∧ RCl τ (pushZ Z m) ∧ (∀ f, isM f = false → f ≠ 33 → τ.1 f = σ.1 f) := by
  obtain ⟨m0, ⟨h, H⟩, x⟩ := Z
  have hr : RCl σ (m, (h, H), x) := ⟨h0, hx⟩
  have r1 : σ.1 33 0 0 = nI h := hr.2.1.1
  have r1' : h ≤ 4 := hr.2.1.2
  have h1 : Cla σ 1 m0 := h1
  unfold dc_X2_record
  simp only [jn]
  by_cases e : h = 4
  · subst e
    rw [r1, if_neg (by decide)]
    obtain ⟨σ1, d1, d2, d3, d4, d5⟩ := drop_eq (σ := σ)
    rw [d1, bv_s]
    obtain ⟨hm, -, r2, r3, r4, r5, r6, r7, r8⟩ := hr
    have hM : ∀ f, isM f = true → σ1.1 f = σ.1 f := fun f hf => d2 f (by rintro rfl; cases hf)
    have hp : ∀ s, s < 4 → ∃ t, t < 4 ∧ σ1.2 s = σ.2 t ∧ t = (s + 1) % 4 := fun s hs => by
      by_cases e : s = 3
      · subst e; exact ⟨0, by decide, d5, by decide⟩
      · exact ⟨s + 1, by omega, d4 s (by omega), by omega⟩
    have hr1 : RCl σ1 (m, (3, fun s => H (s + 1)), x) := by
      refine ⟨hm.congrM fun f hf => by rw [hM f hf], ⟨d3, by show 3 ≤ 4; decide⟩, fun s hs => ?_, fun s hs => ?_, fun s t hs ht est => ?_, ?_, fun q hq => (r6 q hq).congrM fun f hf => by rw [hM f hf], ?_, ?_⟩
      · have hs' : s < 3 := hs
        rw [d4 s hs']
        exact (r2 (s + 1) (by show s + 1 < 4; omega)).congrM fun f hf => by rw [hM f hf]
      · obtain ⟨t, t1, t2, t3⟩ := hp s hs
        rw [t2]; exact r3 t t1
      · obtain ⟨a, a1, a2, a3⟩ := hp s hs
        obtain ⟨b, b1, b2, b3⟩ := hp t ht
        rw [a2, b2] at est
        have := r4 a b a1 b1 est
        omega
      · rw [d2 147 (by decide)]; exact r5
      · rw [d2 17 (by decide)]; exact r7
      · rw [d2 256 (by decide)]; exact r8
    obtain ⟨τ, t1, t2, t3⟩ := rec2b (show 3 < 4 by decide) (h1.congrM fun f hf => by rw [hM f hf]) hr1
    exact ⟨τ, t1, t2, fun f h1 h2 => (t3 f h1 h2).trans (d2 f h2)⟩
  · rw [if_pos (by rw [r1, show (4 : Int32) = nI 4 from rfl, nI_ltI (by omega) (by omega)]; omega)]
    obtain ⟨τ, t1, t2, t3⟩ := rec2b (show h < 4 by omega) h1 hr
    refine ⟨τ, t1, ?_, t3⟩
    have : pushZ (m0, (h, H), x) m = (m, (h + 1, fun s => if s = h then m0 else H s), x) := by
      show (m, (if h = 4 then _ else _), x) = _
      rw [if_neg e]
    rw [this]
    exact t2
theorem mk_c {K : Int} {Z : Zt} {F : Fds} {N : Nat} (hN : N ≤ 10) (hF : ∀ e, F e 2 = 0 ∨ F e 2 = 1) : ∀ (k i : Nat) (m : Mt) (σ : Sto) (f : Nat), i + k = N → k < f → InvM K m → Cla σ 0 m → Cla σ 1 Z.1 → RCx σ Z → σ.1 19 0 0 = nI N → FR σ F N 0 →
    ((rn F k i m).1 = 0 → ∃ τ, wh1 (fun (rec5 : Int32 → Sto → Option (Int32 × Sto)) (x7 : Int32) (σ6 : Sto) => (if (σ6.1 19 0 0) ≤ x7 then (bv (dc_X2_record 1 σ6) fun σ9 => some (σ9.1 19 0 0, σ9)) else (if inb x7 10 then (bd (dc_X5_fundingError 0 (σ6.1 0 0 x7.toNatClampNeg) (σ6.1 1 0 x7.toNatClampNeg) (σ6.1 3 0 x7.toNatClampNeg) σ6) fun r11 σ12 => (if r11 = 0 then (bv (dc_X5_addNote 0 (σ12.1 0 0 x7.toNatClampNeg) (σ12.1 1 0 x7.toNatClampNeg) (σ12.1 2 0 x7.toNatClampNeg) (σ12.1 3 0 x7.toNatClampNeg) σ12) fun σ14 => rec5 (x7 + 1) σ14) else (bv (dc_X5_copyFrom 0 1 σ12) fun σ16 => some (r11, σ16)))) else none))) f (nI i) σ = some (nI N, τ) ∧ RCl τ (pushZ Z (rn F k i m).2) ∧ SameM σ τ) ∧ (¬ (rn F k i m).1 = 0 → ∃ τ, wh1 (fun (rec5 : Int32 → Sto → Option (Int32 × Sto)) (x7 : Int32) (σ6 : Sto) => (if (σ6.1 19 0 0) ≤ x7 then (bv (dc_X2_record 1 σ6) fun σ9 => some (σ9.1 19 0 0, σ9)) else (if inb x7 10 then (bd (dc_X5_fundingError 0 (σ6.1 0 0 x7.toNatClampNeg) (σ6.1 1 0 x7.toNatClampNeg) (σ6.1 3 0 x7.toNatClampNeg) σ6) fun r11 σ12 => (if r11 = 0 then (bv (dc_X5_addNote 0 (σ12.1 0 0 x7.toNatClampNeg) (σ12.1 1 0 x7.toNatClampNeg) (σ12.1 2 0 x7.toNatClampNeg) (σ12.1 3 0 x7.toNatClampNeg) σ12) fun σ14 => rec5 (x7 + 1) σ14) else (bv (dc_X5_copyFrom 0 1 σ12) fun σ16 => some (r11, σ16)))) else none))) f (nI i) σ = some ((rn F k i m).1, τ) ∧ RCl τ Z ∧ SameM σ τ) := by
  intro k
  induction k with
  | zero =>
    intro i m σ f hi hf hI h0 h1 hx h19 hFR
    obtain ⟨f, rfl⟩ : ∃ z, f = z + 1 := ⟨f - 1, by omega⟩
    obtain ⟨υ, v1, v2, v3⟩ := record1_eq h0 h1 hx
    refine ⟨fun _ => ⟨υ, ?_, v2, frC v3⟩, fun z => absurd rfl z⟩
    unfold wh1
    rw [h19, if_pos (by rw [nI_leI (by omega) (by omega)]; omega), v1, bv_s, v3 19 rfl (by decide), h19]
  | succ k ih =>
    intro i m σ f hi hf hI h0 h1 hx h19 hFR
    obtain ⟨f, rfl⟩ : ∃ z, f = z + 1 := ⟨f - 1, by omega⟩
    have IH := fun i m σ => ih i m σ f
    obtain ⟨g0, g1, g2, g3⟩ := hFR.1 i (by omega)
    unfold wh1
    rw [h19, if_neg (by rw [nI_leI (by omega) (by omega)]; omega), if_pos (inb_nI (show i < 10 by omega) (by decide)), nI_clamp (show i < 2 ^ 31 by omega), g0, g1, g3, fe_c hI h0, bd_s, g0, g1, g2, g3, nI_1]
    by_cases c : fe m (F i 0) (F i 1) (F i 3) = 0
    · obtain ⟨i', l', e1, e2, hf'⟩ := fe_ok hI c
      have ha := hI.1.a.2
      have hb := hI.1.b.2
      have f1 := hf'.1
      have f2 := hf'.2.1
      obtain ⟨τ, t1, t2, t3⟩ := adn_c (k := F i 2) hI h0 hf' (hF i) (by rw [← e1, ← e2]; exact c)
      have er : rn F (k + 1) i m = rn F k (i + 1) (adn m i' l' (F i 2) (F i 3)) := by
        show (if fe m (F i 0) (F i 1) (F i 3) = 0 then _ else _) = _
        rw [if_pos c, e1, e2, nI_clamp (by omega), nI_clamp (by omega)]
      obtain ⟨y1, y2⟩ := IH (i + 1) (adn m i' l' (F i 2) (F i 3)) τ (by omega) (by omega) (InvM_adn hI hf' (hF i)) t3 (t2.cla (by decide) h1) (hx.frJ t2 (by decide)) (by rw [t2.1 19 rfl]; exact h19) ⟨fun e' he' => by rw [t2.1 0 rfl, t2.1 1 rfl, t2.1 2 rfl, t2.1 3 rfl]; exact hFR.1 e' he', fun z => absurd z (by decide), fun z => absurd z (by decide), fun z => absurd z (by decide), fun z => absurd z (by decide)⟩
      rw [if_pos c, er, e1, e2, t1, bv_s]
      refine ⟨fun z => ?_, fun z => ?_⟩
      · obtain ⟨υ, u1, u2, u3⟩ := y1 z
        exact ⟨υ, u1, u2, t2.sameM.trans u3⟩
      · obtain ⟨υ, u1, u2, u3⟩ := y2 z
        exact ⟨υ, u1, u2, t2.sameM.trans u3⟩
    · have er : rn F (k + 1) i m = (fe m (F i 0) (F i 1) (F i 3), m) := by
        show (if fe m (F i 0) (F i 1) (F i 3) = 0 then _ else _) = _
        rw [if_neg c]
      obtain ⟨τ, t1, t2, t3⟩ := copy_eq (σ := σ) (d := 0) (s := 1) (by decide)
      rw [if_neg c, er, t1, bv_s]
      exact ⟨fun z => absurd z c, fun _ => ⟨τ, rfl, ⟨t3 _ h1, hx.frJ t2 (by decide)⟩, t2.sameM⟩⟩
theorem q_readFundings {K : Int} {Z : Zt} (hI : InvZ K Z) : Pair K Z dc_X9_readFundings dc_X10_readFundings := by
  obtain ⟨R, hR⟩ : ∃ R, R = rd Z.2.2.2.2 Z.2.2.2.1 Z.2.2.2.1 0 0 0 (fun _ _ => 0) := ⟨_, rfl⟩
  have hF : ∀ e, R.2.2 e 2 = 0 ∨ R.2.2 e 2 = 1 := by rw [hR]; exact rd_kin _ _ _ _ _ fun _ => Or.inl rfl
  have tm : ∀ σ, RMo σ Z → TxM σ Z.2.2.2.2 Z.2.2.2.1 := fun σ h => ⟨h.2.2.2.2.2.1.1, h.2.2.2.2.2.1.2, h.2.2.2.2.2.2⟩
  have tc : ∀ σ, RCl σ Z → TxC σ Z.2.2.2.2 Z.2.2.2.1 := fun σ h => ⟨h.2.2.2.2.2.2.2.1.1, h.2.2.2.2.2.2.2.1.2, h.2.2.2.2.2.2.2.2⟩
  -- the class
  have hc : ∀ σ, RCl σ Z → ∃ τ, dc_X1_read σ = some (R.1, τ) ∧ RCl τ Z ∧ SameM σ τ ∧ (R.1 = -1 → τ.1 19 0 0 = nI R.2.1 ∧ R.2.1 ≤ 10 ∧ FR τ R.2.2 R.2.1 0) := fun σ h => by
    obtain ⟨τ, t1, t2, t3, t4⟩ := read_c (fun _ _ => 0) (tc σ h)
    rw [← hR] at t1 t4
    exact ⟨τ, t1, h.congrF t2 t3, fun f hf => t2 f (by revert hf; unfold isC; simp only [Bool.or_eq_false_iff, decide_eq_false_iff_not]; omega) (by rintro rfl; cases hf), t4⟩
  -- the reference
  have hm : ∀ σ (T : Option (Int32 × Sto) → Prop), RMo σ Z → (∀ N F τ, R = (-1, N, F) → N ≤ 10 → RMid τ Z Z.1 0 → SameC σ τ → Told τ F N → T (wh1 (fun (rec8 : Int32 → Sto → Option (Int32 × Sto)) (x10 : Int32) (σ9 : Sto) => (if (nI N) ≤ x10 then (bd (dc_X10_acted (nI N) σ9) fun r11 σ12 => some (r11, σ12)) else (if inb ((4 : Int32) * x10) 64 then (if inb (((4 : Int32) * x10) + (1 : Int32)) 64 then (if inb (((4 : Int32) * x10) + (2 : Int32)) 64 then (if inb (((4 : Int32) * x10) + (3 : Int32)) 64 then (bd (dc_X10_funds (σ9.1 416 0 ((4 : Int32) * x10).toNatClampNeg) (σ9.1 416 0 (((4 : Int32) * x10) + (1 : Int32)).toNatClampNeg) (σ9.1 416 0 (((4 : Int32) * x10) + (2 : Int32)).toNatClampNeg) (σ9.1 416 0 (((4 : Int32) * x10) + (3 : Int32)).toNatClampNeg) σ9) fun r13 σ14 => (if 0 ≤ r13 then rec8 (x10 + 1) σ14 else (bv (dc_X10_putBack  σ14) fun σ16 => some (r13, σ16)))) else none) else none) else none) else none))) FU (0 : Int32) τ)) → (∀ p τ, RMid τ Z Z.1 0 → SameC σ τ → p ≤ 60 → R.1 = nI p → T (some ((-100 : Int32) - nI p, τ))) → T (dc_X10_readFundings σ) := fun σ T h k0 k1 => by
    obtain ⟨σ1, p1, p2, p3⟩ := aside_eq h
    have T1 := tm σ1 p2.out
    have hfr : FrT σ1 (up (up σ1 172 0 0 (0 : Int32)) 173 0 0 (0 : Int32)) := FrT_up (Or.inr (Or.inl rfl)) (FrT_up (Or.inl rfl) (FrT.refl σ1))
    unfold dc_X10_readFundings
    simp only [lt]
    rw [p1, bv_s]
    refine read_m (R := R) (T := T) T1 (fun N F τ q1 q2 q3 q4 => k0 N F τ q1 q2 (q3.mid p2) (p3.trans q3.same) q4) (fun p τ q1 q2 q3 => k1 p τ (q1.mid p2) (p3.trans q1.same) (by have := T1.2.1; omega) q3) 11 0 0 (fun _ _ => 0) (up (up σ1 172 0 0 (0 : Int32)) 173 0 0 (0 : Int32)) FU (by decide) (by decide) hfr ⟨by rw [up_ne (by decide), up_eq]; rfl, up_eq⟩ ⟨Nat.zero_le _, Or.inl ⟨rfl, by decide, _, Nat.zero_add _, hR⟩⟩ (fun e w he _ => absurd he (Nat.not_lt_zero e))
  by_cases h1 : R.1 = -1
  · have hP : ∃ N F, R = (-1, N, F) := ⟨R.2.1, R.2.2, by rw [← h1]⟩
    obtain ⟨N, F, hE⟩ := hP
    have hF' : ∀ e, F e 2 = 0 ∨ F e 2 = 1 := fun e => by have := hF e; rw [hE] at this; exact this
    have nf : ∀ p, p ≤ 60 → ¬ R.1 = nI p := fun p hp z => by
      rw [h1, teq, nI_toInt (by omega), show (-1 : Int32).toInt = -1 from rfl] at z
      omega
    have cls : ∀ σ, RCl σ Z → N ≤ 10 ∧ ((rn F N 0 Z.1).1 = 0 → ∃ τ, dc_X9_readFundings σ = some (nI N, τ) ∧ RCl τ (pushZ Z (rn F N 0 Z.1).2) ∧ SameM σ τ) ∧ (¬ (rn F N 0 Z.1).1 = 0 → ∃ τ, dc_X9_readFundings σ = some ((rn F N 0 Z.1).1, τ) ∧ RCl τ Z ∧ SameM σ τ) := fun σ h => by
      obtain ⟨τ, t1, t2, t3, t4⟩ := hc σ h
      obtain ⟨t5, t6, t7⟩ := t4 h1
      rw [hE] at t5 t6 t7
      have t6 : N ≤ 10 := t6
      obtain ⟨υ, u1, u2, u3⟩ := copy_eq (σ := τ) (d := 1) (s := 0) (by decide)
      have mk := mk_c (Z := Z) t6 hF' N 0 Z.1 υ FU (Nat.zero_add N) (Nat.lt_of_le_of_lt t6 (by decide)) hI.1 (u2.cla (by decide) t2.1) (u3 _ t2.1) (t2.2.frJ u2 (by decide)) (by rw [u2.1 19 rfl]; exact t5) ⟨fun e' he' => by rw [u2.1 0 rfl, u2.1 1 rfl, u2.1 2 rfl, u2.1 3 rfl]; exact t7.1 e' he', fun z => absurd z (by decide), fun z => absurd z (by decide), fun z => absurd z (by decide), fun z => absurd z (by decide)⟩
      have e0 : dc_X9_readFundings σ = wh1 (fun (rec5 : Int32 → Sto → Option (Int32 × Sto)) (x7 : Int32) (σ6 : Sto) => (if (σ6.1 19 0 0) ≤ x7 then (bv (dc_X2_record 1 σ6) fun σ9 => some (σ9.1 19 0 0, σ9)) else (if inb x7 10 then (bd (dc_X5_fundingError 0 (σ6.1 0 0 x7.toNatClampNeg) (σ6.1 1 0 x7.toNatClampNeg) (σ6.1 3 0 x7.toNatClampNeg) σ6) fun r11 σ12 => (if r11 = 0 then (bv (dc_X5_addNote 0 (σ12.1 0 0 x7.toNatClampNeg) (σ12.1 1 0 x7.toNatClampNeg) (σ12.1 2 0 x7.toNatClampNeg) (σ12.1 3 0 x7.toNatClampNeg) σ12) fun σ14 => rec5 (x7 + 1) σ14) else (bv (dc_X5_copyFrom 0 1 σ12) fun σ16 => some (r11, σ16)))) else none))) FU (nI 0) υ := by
        unfold dc_X9_readFundings
        rw [t1, bd_s, if_pos h1, u1, bv_s]
        rfl
      rw [e0]
      refine ⟨t6, fun z => ?_, fun z => ?_⟩
      · obtain ⟨ω, w1, w2, w3⟩ := mk.1 z
        exact ⟨ω, w1, w2, t3.trans (u2.sameM.trans w3)⟩
      · obtain ⟨ω, w1, w2, w3⟩ := mk.2 z
        exact ⟨ω, w1, w2, t3.trans (u2.sameM.trans w3)⟩
    by_cases h2 : (rn F N 0 Z.1).1 = 0
    · refine ⟨nI N, pushZ Z (rn F N 0 Z.1).2, hI.push (rn_inv hF' N 0 Z.1 hI.1), fun σ h => (cls σ h).2.1 h2, fun σ h => ?_⟩
      refine hm σ (fun o => ∃ τ, o = some (nI N, τ) ∧ RMo τ (pushZ Z (rn F N 0 Z.1).2) ∧ SameC σ τ) h (fun N' F' τ q1 q2 q3 q4 q5 => ?_) (fun p τ _ _ q0 q1 => absurd q1 (nf p q0))
      rw [hE] at q1
      cases q1
      obtain ⟨ω, w1, w2, w3⟩ := (mk_eq q2 hF' N 0 Z.1 τ FU (Nat.zero_add N) (Nat.lt_of_le_of_lt q2 (by decide)) hI.1 q3 q5).1 h2
      exact ⟨ω, w1, w2, q4.trans w3⟩
    · refine ⟨(rn F N 0 Z.1).1, Z, hI, fun σ h => (cls σ h).2.2 h2, fun σ h => ?_⟩
      refine hm σ (fun o => ∃ τ, o = some ((rn F N 0 Z.1).1, τ) ∧ RMo τ Z ∧ SameC σ τ) h (fun N' F' τ q1 q2 q3 q4 q5 => ?_) (fun p τ _ _ q0 q1 => absurd q1 (nf p q0))
      rw [hE] at q1
      cases q1
      obtain ⟨ω, w1, w2, w3⟩ := (mk_eq q2 hF' N 0 Z.1 τ FU (Nat.zero_add N) (Nat.lt_of_le_of_lt q2 (by decide)) hI.1 q3 q5).2 h2
      exact ⟨ω, w1, w2, q4.trans w3⟩
  · refine ⟨(-100 : Int32) - R.1, Z, hI, fun σ h => ?_, fun σ h => ?_⟩
    · obtain ⟨τ, t1, t2, t3, t4⟩ := hc σ h
      refine ⟨τ, ?_, t2, t3⟩
      unfold dc_X9_readFundings
      rw [t1, bd_s, if_neg h1]
    · refine hm σ (fun o => ∃ τ, o = some ((-100 : Int32) - R.1, τ) ∧ RMo τ Z ∧ SameC σ τ) h (fun N' F' τ q1 q2 q3 q4 q5 => ?_) (fun p τ q2 q3 q0 q1 => ?_)
      · rw [q1] at h1
        exact absurd rfl h1
      · rw [q1]
        exact ⟨τ, rfl, q2.out, q3⟩
