/-! THE LAW LOOKS AT LOANS AND NOTES -/
theorem wh5_inv {A B C D R : Type} {b : (A → B → C → D → Int32 → Sto → Option R) → A → B → C → D → Int32 → Sto → Option R} {T : Option R → Prop} {σ : Sto} (P : Nat → A → B → C → D → Prop) (N : Nat) (hN : N < 100000)
    (hs : ∀ (i : Nat) (x : A) (y : B) (z : C) (w : D), i < N → P i x y z w → ∃ x' y' z' w', P (i + 1) x' y' z' w' ∧ ∀ rec : A → B → C → D → Int32 → Sto → Option R, b rec x y z w (nI i) σ = rec x' y' z' w' (nI (i + 1)) σ)
    (he : ∀ (x : A) (y : B) (z : C) (w : D), P N x y z w → ∀ rec : A → B → C → D → Int32 → Sto → Option R, T (b rec x y z w (nI N) σ)) {x : A} {y : B} {z : C} {w : D} (h0 : P 0 x y z w) : T (wh5 b FU x y z w (0 : Int32) σ) := by
  have key : ∀ (k i : Nat) (x : A) (y : B) (z : C) (w : D) (f : Nat), i + k = N → k < f → P i x y z w → T (wh5 b f x y z w (nI i) σ) := by
    intro k
    induction k with
    | zero =>
      intro i x y z w f hi hf hP
      obtain ⟨f, rfl⟩ : ∃ z, f = z + 1 := ⟨f - 1, by omega⟩
      have : i = N := by omega
      subst this
      exact he x y z w hP _
    | succ k ih =>
      intro i x y z w f hi hf hP
      obtain ⟨f, rfl⟩ : ∃ z, f = z + 1 := ⟨f - 1, by omega⟩
      obtain ⟨x', y', z', w', h1, h2⟩ := hs i x y z w (by omega) hP
      show T (b (wh5 b f) x y z w (nI i) σ)
      rw [h2]
      exact ih (i + 1) x' y' z' w' f (by omega) (by omega) h1
  exact key N 0 x y z w FU (by omega) hN h0
theorem wh4_inv {A B C R : Type} {b : (A → B → C → Int32 → Sto → Option R) → A → B → C → Int32 → Sto → Option R} {T : Option R → Prop} {σ : Sto} (P : Nat → A → B → C → Prop) (N : Nat) (hN : N < 100000)
    (hs : ∀ (i : Nat) (x : A) (y : B) (z : C), i < N → P i x y z → ∃ x' y' z', P (i + 1) x' y' z' ∧ ∀ rec : A → B → C → Int32 → Sto → Option R, b rec x y z (nI i) σ = rec x' y' z' (nI (i + 1)) σ)
    (he : ∀ (x : A) (y : B) (z : C), P N x y z → ∀ rec : A → B → C → Int32 → Sto → Option R, T (b rec x y z (nI N) σ)) {x : A} {y : B} {z : C} (h0 : P 0 x y z) : T (wh4 b FU x y z (0 : Int32) σ) := by
  have key : ∀ (k i : Nat) (x : A) (y : B) (z : C) (f : Nat), i + k = N → k < f → P i x y z → T (wh4 b f x y z (nI i) σ) := by
    intro k
    induction k with
    | zero =>
      intro i x y z f hi hf hP
      obtain ⟨f, rfl⟩ : ∃ z, f = z + 1 := ⟨f - 1, by omega⟩
      have : i = N := by omega
      subst this
      exact he x y z hP _
    | succ k ih =>
      intro i x y z f hi hf hP
      obtain ⟨f, rfl⟩ : ∃ z, f = z + 1 := ⟨f - 1, by omega⟩
      obtain ⟨x', y', z', h1, h2⟩ := hs i x y z (by omega) hP
      show T (b (wh4 b f) x y z (nI i) σ)
      rw [h2]
      exact ih (i + 1) x' y' z' f (by omega) (by omega) h1
  exact key N 0 x y z FU (by omega) hN h0
theorem jn_eq {α β : Type} (f : α) (g : α → β) : jn f g = g f := rfl
theorem lt_eq {α : Type} (x : Sto) (k : Sto → Option α) : lt x k = k x := rfl
theorem bdE {α : Type} {X : Option (Int32 × Sto)} {r : Int32} {τ : Sto} (h : X = some (r, τ)) (K : Int32 → Sto → Option α) : bd X K = K r τ := by rw [h]; rfl
theorem bvE {α : Type} {X : Option Sto} {τ : Sto} (h : X = some τ) (K : Sto → Option α) : bv X K = K τ := by rw [h]; rfl
theorem le00 : ((0 : Int32) ≤ 0) = True := eq_true (by decide)
theorem f05 : ((0 : Int32) ≤ -5) = False := eq_false (by decide)
theorem lare_eq {K : Int} {Z : Zt} {σ : Sto} (hI : InvZ K Z) (hr : RCl σ Z) (h : Lr σ Z.1) (hL : L3 Z.1) (h1 : σ.1 304 0 1 = 4) : dc_L_areLoans σ = some (1, σ) := by
  obtain ⟨hc, hn, hm1, hm2⟩ := id hL
  obtain ⟨h3, hn'⟩ := hc.c
  have hb := hL.b
  have z0 : (0 : Int32).toInt = 0 := rfl
  unfold dc_L_areLoans
  refine wh5_inv (T := fun o => o = some (1, σ)) (fun k d t o a => d = itN (fun n x => x + Z.1 (34 + 11 * n + 6)) 0 k 0 ∧ t = itN (fun n x => if ¬ Z.1 (34 + 11 * n + 8) ≤ 0 then x + 1 else x) 0 k 0 ∧ o = itN (fun n x => if Z.1 (34 + 11 * n + 10) = -5 then x else x + 1) 0 k 0 ∧ a = itN (fun n x => x + Z.1 (34 + 11 * n + 4)) 0 k 0) 4 (by decide) (fun k d t o a hk hP => ?_) (fun d t o a hP rec => ?_) ⟨rfl, rfl, rfl, rfl⟩
  · obtain ⟨e1, e2, e3, e4⟩ := hP
    have hkb : k < nb Z.1 := by omega
    have hLo := hI.1.2.2.2.2.2.1 k hkb
    have hSm := hI.1.2.2.2.2.2.2.2.1 k hkb
    have L0 := h _ _ _ (rl0 hk)
    have L3' := h _ _ _ (rlw (w := 3) hk (by decide))
    have L4 := h _ _ _ (rlw (w := 4) hk (by decide))
    have L5 := h _ _ _ (rlw (w := 5) hk (by decide))
    have L6 := h _ _ _ (rlw (w := 6) hk (by decide))
    have L7 := h _ _ _ (rlw (w := 7) hk (by decide))
    have L8 := h _ _ _ (rlw (w := 8) hk (by decide))
    have L9 := h _ _ _ (rlw (w := 9) hk (by decide))
    have L10 := h _ _ _ (rlw (w := 10) hk (by decide))
    have Pm := lpr_eq h hc hn (nI k) (-1) 2 (Or.inl ⟨by decide, rfl⟩)
    have P0 := lpr_eq h hc hn (nI k) 0 0 (Or.inr ⟨by decide, rfl, by decide⟩)
    have P1 := lpr_eq h hc hn (nI k) 1 1 (Or.inr ⟨by decide, rfl, by decide⟩)
    have ni : ¬ (4 : Int32) ≤ nI k := by rw [show (4 : Int32) = nI 4 from rfl, nI_leI (by omega) (by omega)]; omega
    refine ⟨d + Z.1 (34 + 11 * k + 6), if ¬ Z.1 (34 + 11 * k + 8) ≤ 0 then t + 1 else t, if Z.1 (34 + 11 * k + 10) = -5 then o else o + 1, a + Z.1 (34 + 11 * k + 4), ⟨?_, ?_, ?_, ?_⟩, fun rec => ?_⟩
    · rw [itN_succ, ← e1, Nat.zero_add]
    · rw [itN_succ, ← e2, Nat.zero_add]
    · rw [itN_succ, ← e3, Nat.zero_add]
    · rw [itN_succ, ← e4, Nat.zero_add]
    · rw [if_pos (of_eq_true i91), cl_1, h1, if_neg ni]
      have h10 : (0 ≤ Z.1 (34 + 11 * k + 10) ∧ ¬ Z.1 (34 + 11 * k + 10) = -5) ∨ (¬ 0 ≤ Z.1 (34 + 11 * k + 10) ∧ Z.1 (34 + 11 * k + 10) = -5) := by
        rcases hLo.2.2.2.2.2.2.2.2.2.2.1 with q | q
        · exact Or.inr ⟨by rw [q]; decide, q⟩
        · refine Or.inl ⟨by rw [tle, z0]; exact q.1, fun z => ?_⟩
          rw [z] at q
          exact absurd q.1 (by decide)
      by_cases c1 : Z.1 (34 + 11 * k + 3) = 1
      · have c0 : ¬ Z.1 (34 + 11 * k + 3) = 0 := by rw [c1]; decide
        have em : msn Z.1 k = 0 := if_neg c0
        have e4' : pr Z.1 (nI k) 2 = Z.1 (34 + 11 * k + 4) := by rw [teq, (pr_si hI.1 (nI k)).1]; exact hSm.1 c1
        have c1' := eq_true c1
        have c0' := eq_false c0
        rcases h10 with ⟨q1, q2⟩ | ⟨q1, q2⟩ <;> by_cases q3 : Z.1 (34 + 11 * k + 8) ≤ 0 <;> simp (disch := omega) only [↓jn_eq, ↓reduceIte, ↓bdE (e_loan_0 hI hr hkb), ↓bdE (e_loan_1 hI hr hkb), ↓bdE (e_loan_2 hI hr hkb), ↓bdE (e_loan_3 hI hr hkb), ↓bdE (e_loan_4 hI hr hkb), ↓bdE (e_loan_5 hI hr hkb), ↓bdE (e_loan_6 hI hr hkb), ↓bdE (e_loan_7 hI hr hkb), ↓bdE (e_loan_8 hI hr hkb), ↓bdE (e_loan_9 hI hr hkb), ↓bdE (e_loan_11 hI hr hkb), ↓bdE (e_loan_12 hI hr hkb), ↓bdE P0, ↓bdE P1, ↓bdE Pm, xm11, xp3, xp4, xp5, xp6, xp7, xp8, xp9, xp10, xp1, inT44, clN, L0, L3', L4, L5, L6, L7, L8, L9, L10, c1', c0', f10, t00, em, e4', q1, q2, q3, f05, not_true, not_false_iff, Int32.add_zero]
      · have c1' := eq_false c1
        obtain ⟨k4, k6, k7, k8, k10⟩ := hLo.2.2.2.2.2.2.2.2.2.2.2 c1
        by_cases c0 : Z.1 (34 + 11 * k + 3) = 0
        · have em : msn Z.1 k = Z.1 (34 + 11 * k) - pr Z.1 (nI k) 2 := if_pos c0
          have c0' := eq_true c0
          simp (disch := omega) only [↓jn_eq, ↓reduceIte, ↓bdE (e_loan_0 hI hr hkb), ↓bdE (e_loan_1 hI hr hkb), ↓bdE (e_loan_2 hI hr hkb), ↓bdE (e_loan_3 hI hr hkb), ↓bdE (e_loan_4 hI hr hkb), ↓bdE (e_loan_5 hI hr hkb), ↓bdE (e_loan_6 hI hr hkb), ↓bdE (e_loan_7 hI hr hkb), ↓bdE (e_loan_8 hI hr hkb), ↓bdE (e_loan_9 hI hr hkb), ↓bdE (e_loan_11 hI hr hkb), ↓bdE (e_loan_12 hI hr hkb), ↓bdE P0, ↓bdE P1, ↓bdE Pm, xm11, xp3, xp4, xp5, xp6, xp7, xp8, xp9, xp10, xp1, inT44, clN, L0, L3', L4, L5, L6, L7, L8, L9, L10, c1', c0', f10, t00, em, k4, k6, k7, k8, k10, le00, f05, not_true, Int32.add_zero]
        · have em : msn Z.1 k = 0 := if_neg c0
          have c0' := eq_false c0
          simp (disch := omega) only [↓jn_eq, ↓reduceIte, ↓bdE (e_loan_0 hI hr hkb), ↓bdE (e_loan_1 hI hr hkb), ↓bdE (e_loan_2 hI hr hkb), ↓bdE (e_loan_3 hI hr hkb), ↓bdE (e_loan_4 hI hr hkb), ↓bdE (e_loan_5 hI hr hkb), ↓bdE (e_loan_6 hI hr hkb), ↓bdE (e_loan_7 hI hr hkb), ↓bdE (e_loan_8 hI hr hkb), ↓bdE (e_loan_9 hI hr hkb), ↓bdE (e_loan_11 hI hr hkb), ↓bdE (e_loan_12 hI hr hkb), ↓bdE P0, ↓bdE P1, ↓bdE Pm, xm11, xp3, xp4, xp5, xp6, xp7, xp8, xp9, xp10, xp1, inT44, clN, L0, L3', L4, L5, L6, L7, L8, L9, L10, c1', c0', f10, t00, em, k4, k6, k7, k8, k10, le00, f05, not_true, Int32.add_zero]
  · obtain ⟨e1, e2, e3, e4⟩ := hP
    have x11 : xaPr Z.1 = a := by rw [e4]; unfold xaPr; rw [hb]
    have x12 : xaIn Z.1 = d := by rw [e1]; unfold xaIn; rw [hb]
    have x14 : xinA Z.1 = t := by rw [e2]; unfold xinA; rw [hb]
    have x15 : xorS Z.1 = o := by rw [e3]; unfold xorS; rw [hb]
    have le4 : (4 : Int32) ≤ nI 4 := by decide
    simp only [↓reduceIte, ↓bdE (e_count_0 hI hr), ↓bdE (e_count_2 hI hr), ↓bdE (e_count_8 hI hr), ↓bdE (e_count_9 hI hr), ↓bdE (e_count_10 hI hr), ↓bdE (e_count_11 hI hr), ↓bdE (e_count_12 hI hr), ↓bdE (e_count_14 hI hr), ↓bdE (e_count_15 hI hr), ↓bdE (e_count_18 hI hr), i90, i91, i92, i93, i94, cl_0, cl_1, cl_2, cl_3, cl_4, h1, le4, h _ _ _ rg0, h _ _ _ rg2, h _ _ _ rg3, h _ _ _ rg4, hm2, x11, x12, x14, x15]
theorem or0 (x : Int32) : x ||| (0 : Int32) = x := by
  apply Int32.toBitVec_inj.mp
  rw [Int32.toBitVec_or]
  exact BitVec.or_zero
theorem lnot_eq {K : Int} {Z : Zt} {σ : Sto} (hI : InvZ K Z) (hr : RCl σ Z) (h : Lr σ Z.1) (hL : L3 Z.1) : dc_L_areNotes σ = some (1, σ) := by
  obtain ⟨hc, hn, hm1, hm2⟩ := id hL
  obtain ⟨h3, hn'⟩ := hc.c
  have ha := hL.a
  have z0 : (0 : Int32).toInt = 0 := rfl
  have g2 : σ.1 304 0 2 = nI (nc Z.1) := (h _ _ _ rg2).trans h3
  unfold dc_L_areNotes
  refine wh2_inv (T := fun o => o = some (1, σ)) (fun k x τ => τ = σ ∧ x = itN (fun n x => x + Z.1 (144 + 7 * n + 6)) 0 k 0) (nc Z.1) (by omega) (fun k x τ hk hP => ?_) (fun x τ hP rec => ?_) ⟨rfl, rfl⟩
  · obtain ⟨rfl, e1⟩ := hP
    have hk10 : k < 10 := by omega
    refine ⟨x + Z.1 (144 + 7 * k + 6), τ, ⟨rfl, by rw [itN_succ, ← e1, Nat.zero_add]⟩, fun rec => ?_⟩
    have ni : ¬ nI (nc Z.1) ≤ nI k := by rw [nI_leI (by omega) (by omega)]; omega
    rw [if_pos (of_eq_true i92), cl_2, g2, if_neg ni]
    simp (disch := omega) only [↓reduceIte, ↓bdE (e_note_0 hI hr hk), ↓bdE (e_note_1 hI hr hk), ↓bdE (e_note_2 hI hr hk), ↓bdE (e_note_3 hI hr hk), ↓bdE (e_note_4 hI hr hk), ↓bdE (e_note_5 hI hr hk), ↓bdE (e_note_6 hI hr hk), xm6, xp1, xp2, xp3, xp4, xp5, inT60, inT10, clN, h _ _ _ (rn0 hk10), h _ _ _ (rn1 hk10), h _ _ _ (rn2 hk10), h _ _ _ (rn3 hk10), h _ _ _ (rn4 hk10), h _ _ _ (rn5 hk10), h _ _ _ (rc hk10)]
  · obtain ⟨rfl, e1⟩ := hP
    have x13 : xaLo Z.1 = x := e1.symm
    rw [if_pos (of_eq_true i92), cl_2, g2, if_pos (by rw [nI_leI (by omega) (by omega)]; omega)]
    clear rec
    refine wh1_inv (T := fun o => o = some (1, τ)) (fun k υ => υ = τ) 3 (by decide) (fun i υ hi hP => ?_) (fun υ hP rec => ?_) rfl
    · refine ⟨τ, rfl, fun rec => ?_⟩
      rw [hP]
      have hia : i < na Z.1 := by omega
      have ni3 : ¬ (3 : Int32) ≤ nI i := by rw [show (3 : Int32) = nI 3 from rfl, nI_leI (by omega) (by omega)]; omega
      rw [if_neg ni3]
      refine wh4_inv (T := fun o => o = rec (nI (i + 1)) τ) (fun j s y z => s = itN (fun n x => if Z.1 (144 + 7 * n) = nI i then x + Z.1 (144 + 7 * n + 3) else x) 0 j 0 ∧ y = itN (fun n x => if Z.1 (144 + 7 * n) = nI i ∧ ¬ Z.1 (144 + 7 * n + 3) = 0 then x + 1 else x) 0 j 0 ∧ z = itN (fun n x => if Z.1 (144 + 7 * n) = nI i ∧ ¬ Z.1 (144 + 7 * n + 3) = 0 then x ||| (1 <<< (Z.1 (144 + 7 * n + 1) &&& 31)) else x) 0 j 0) (nc Z.1) (by omega) (fun j s y z hj hP => ?_) (fun s y z hP rec4 => ?_) ⟨rfl, rfl, rfl⟩
      · obtain ⟨e2, e3, e4⟩ := hP
        have hj10 : j < 10 := by omega
        have nj : ¬ nI (nc Z.1) ≤ nI j := by rw [nI_leI (by omega) (by omega)]; omega
        have hp := hI.1.pb j hj
        refine ⟨if Z.1 (144 + 7 * j) = nI i then s + Z.1 (144 + 7 * j + 3) else s, if Z.1 (144 + 7 * j) = nI i ∧ ¬ Z.1 (144 + 7 * j + 3) = 0 then y + 1 else y, if Z.1 (144 + 7 * j) = nI i ∧ ¬ Z.1 (144 + 7 * j + 3) = 0 then z ||| (1 <<< (Z.1 (144 + 7 * j + 1) &&& 31)) else z, ⟨by rw [itN_succ, ← e2, Nat.zero_add], by rw [itN_succ, ← e3, Nat.zero_add], by rw [itN_succ, ← e4, Nat.zero_add]⟩, fun rec4 => ?_⟩
        rw [if_pos (of_eq_true i92), g2, if_neg nj]
        simp (disch := omega) only [jn, if_true, if_false, xm6, xp1, xp3, inT60, clN, h _ _ _ (rn0 hj10), h _ _ _ (rn1 hj10), h _ _ _ (rn3 hj10), f10, t00, Int32.add_zero, or0]
        by_cases c1 : Z.1 (144 + 7 * j) = nI i
        · rw [if_pos c1, if_pos c1]
          by_cases c2 : Z.1 (144 + 7 * j + 3) = 0
          · rw [if_pos (by rw [c2]; decide), if_neg (fun z => z.2 c2), if_neg (fun z => z.2 c2), c2, Int32.add_zero]
          · rw [if_neg (fun q => c2 (by rw [teq, z0]; rw [tle, z0] at q; omega)), if_pos ⟨c1, c2⟩, if_pos ⟨c1, c2⟩]
        · rw [if_neg c1, if_neg c1, if_neg (fun z => c1 z.1), if_neg (fun z => c1 z.1)]
      · obtain ⟨e2, e3, e4⟩ := hP
        have y1 : xprO Z.1 (nI i) = s := e2.symm
        have y2 : xlvO Z.1 (nI i) = y := e3.symm
        have y3 : xlnO Z.1 (nI i) = z := e4.symm
        have nj : nI (nc Z.1) ≤ nI (nc Z.1) := by rw [nI_leI (by omega) (by omega)]; omega
        rw [if_pos (of_eq_true i92), g2, if_pos nj]
        simp (disch := omega) only [↓reduceIte, ↓bdE (e_investor_0 hI hr hia), ↓bdE (e_investor_1 hI hr hia), ↓bdE (e_investor_2 hI hr hia), ↓bdE (e_investor_3 hI hr hia), ↓bdE (e_investor_4 hI hr hia), ↓bdE (e_investor_5 hI hr hia), xm3, xp1, xp2, inT9, clN, h _ _ _ (ri0 hi), h _ _ _ (ri1 hi), h _ _ _ (ri2 hi), y1, y2, y3]
    · rw [hP, if_pos (by decide)]
      clear rec
      refine wh1_inv (T := fun o => o = some (1, τ)) (fun k υ => υ = τ) 4 (by decide) (fun i υ hi hP => ?_) (fun υ hP rec => ?_) rfl
      · refine ⟨τ, rfl, fun rec => ?_⟩
        rw [hP]
        have ni4 : ¬ (4 : Int32) ≤ nI i := by rw [show (4 : Int32) = nI 4 from rfl, nI_leI (by omega) (by omega)]; omega
        simp (disch := omega) only [↓reduceIte, ↓bdE (e_servicer_0 hI hr hi), ↓bdE (e_servicer_1 hI hr hi), ↓bdE (lfee_eq hi), ni4, xq5, xp1, inT9, clN, h _ _ _ (rg5 hi)]
      · rw [hP]
        have nN : ¬ isN Z.1 (Z.1 3) := fun z => by have := z.2; omega
        have nI' : ¬ isI Z.1 3 := fun z => by have := z.2; rw [hm1] at this; exact absurd this (by decide)
        have le4 : (4 : Int32) ≤ nI 4 := by decide
        simp only [↓reduceIte, ↓bdE (e_count_13 hI hr), ↓bdE (e_note1 hI hr nN 0), ↓bdE (e_investor1 hI hr nI' 0), ↓bdE (e_servicer1 hI hr (a := 4) (by decide) 0), i92, cl_2, h _ _ _ rg2, le4, x13]
