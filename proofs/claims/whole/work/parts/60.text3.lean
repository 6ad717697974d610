/-! one funding is told -/
theorem lk_iff {P : Int32 → Prop} {t : Nat → Int32} {n p : Nat} (h : ¬ P (-1)) : P (lk t n p) ↔ (p < n ∧ P (t p)) := by
  unfold lk
  by_cases c : n ≤ p
  · rw [if_pos c]; exact ⟨fun z => absurd z h, fun z => by omega⟩
  · rw [if_neg c]; exact ⟨fun z => ⟨by omega, z⟩, fun z => z.2⟩
theorem if01 {P : Prop} [Decidable P] : ¬ (if P then (1 : Int32) else 0) = 0 ↔ P := by
  by_cases c : P
  · rw [if_pos c]; exact ⟨fun _ => c, fun _ => by decide⟩
  · rw [if_neg c]; exact ⟨fun z => absurd rfl z, fun z => absurd z c⟩
theorem must_st {σ : Sto} {t : Nat → Int32} {n : Nat} {R : Int32 × Nat × Fds} {e pl p : Nat} {b a : Int32} {F : Fds} (hs : Stq σ p b) (hR : Rch t n R e pl p b F) (hp : pl ≤ 4) (ha : ¬ a = 0 ↔ (p < n ∧ alw (t p) pl)) : ∃ τ p' b', dc_X10_must a σ = some τ ∧ FrT σ τ ∧ τ.1 416 = σ.1 416 ∧ Stq τ p' b' ∧ Rch t n R e (pl + 1) p' b' (tk F e (lk t n p) pl) := by
  obtain ⟨τ, h1, h2, h3, h4⟩ := must_eq (a := a) hs
  exact ⟨τ, _, _, h1, h2, h3, h4, hR.step hp ha⟩
theorem digit_st {σ : Sto} {t : Nat → Int32} {n : Nat} {R : Int32 × Nat × Fds} {e pl p : Nat} {b : Int32} {F : Fds} (hT : TxM σ t n) (hs : Stq σ p b) (hR : Rch t n R e pl p b F) (hp : pl = 0 ∨ pl = 2) : ∃ τ p' b', dc_X10_digit 0 σ = some (lk t n p - 48, τ) ∧ FrT σ τ ∧ τ.1 416 = σ.1 416 ∧ Stq τ p' b' ∧ Rch t n R e (pl + 1) p' b' (tk F e (lk t n p) pl) := by
  have ha : ¬ (if dg (lk t n p) then (1 : Int32) else 0) = 0 ↔ (p < n ∧ alw (t p) pl) := by
    rw [if01, lk_iff (P := dg) (by decide)]
    rcases hp with rfl | rfl
    · rw [alw_0]
    · rw [alw_2]
  obtain ⟨τ, p', b', h1, h2⟩ := must_st hs hR (by omega) ha
  unfold dc_X10_digit
  rw [look_eq hT hs hR.1, bd_s, in_d9, bd_s, h1, bv_s]
  exact ⟨τ, p', b', rfl, h2⟩
theorem digit_st1 {σ : Sto} {t : Nat → Int32} {n : Nat} {R : Int32 × Nat × Fds} {e p : Nat} {b : Int32} {F : Fds} (hT : TxM σ t n) (hs : Stq σ p b) (hR : Rch t n R e 4 p b F) : ∃ τ p' b', dc_X10_digit 1 σ = some (lk t n p - 48, τ) ∧ FrT σ τ ∧ τ.1 416 = σ.1 416 ∧ Stq τ p' b' ∧ Rch t n R e (4 + 1) p' b' (tk F e (lk t n p) 4) := by
  have ha : ¬ (if dg (lk t n p) ∧ ¬ lk t n p = 48 then (1 : Int32) else 0) = 0 ↔ (p < n ∧ alw (t p) 4) := by
    rw [if01, lk_iff (P := fun s => dg s ∧ ¬ s = 48) (by decide), alw_4]
  obtain ⟨τ, p', b', h1, h2⟩ := must_st hs hR (by omega) ha
  unfold dc_X10_digit
  rw [look_eq hT hs hR.1, bd_s, in_d1, bd_s, h1, bv_s]
  exact ⟨τ, p', b', rfl, h2⟩
theorem Stq.up {σ : Sto} {p : Nat} {b v : Int32} {j l : Nat} (h : Stq σ p b) : Stq (up σ 416 j l v) p b := ⟨(up_ne (by decide)).trans h.1, (up_ne (by decide)).trans h.2⟩
theorem FrT.u {σ : Sto} {j l : Nat} {v : Int32} : FrT σ (up σ 416 j l v) := FrT_up (Or.inr (Or.inr rfl)) (FrT.refl σ)
theorem x4z (e : Nat) : (4 : Int32) * nI e = nI (4 * e) := by rw [show (4 : Int32) = nI 4 from rfl, nI_mul]
theorem x4_1 (e : Nat) : nI (4 * e) + (1 : Int32) = nI (4 * e + 1) := nI_add _ 1
theorem x4_2 (e : Nat) : nI (4 * e) + (2 : Int32) = nI (4 * e + 2) := nI_add _ 2
theorem x4_3 (e : Nat) : nI (4 * e) + (3 : Int32) = nI (4 * e + 3) := nI_add _ 3
theorem jn_if {α : Type} {p : Prop} [Decidable p] (K : Int32 → α) : jn K (fun k => if p then k 1 else k 0) = K (if p then 1 else 0) := by
  show (if p then K 1 else K 0) = _
  by_cases c : p
  · rw [if_pos c, if_pos c]
  · rw [if_neg c, if_neg c]
theorem tk0 {F : Fds} {e : Nat} {s : Int32} : tk F e s 0 = fst F e 0 (s - 48) := rfl
theorem tk1 {F : Fds} {e : Nat} {s : Int32} : tk F e s 1 = F := rfl
theorem tk2 {F : Fds} {e : Nat} {s : Int32} : tk F e s 2 = fst F e 1 (s - 48) := rfl
theorem tk3 {F : Fds} {e : Nat} {s : Int32} : tk F e s 3 = fst F e 2 (if s = 106 then 1 else 0) := rfl
theorem tk4 {F : Fds} {e : Nat} {s : Int32} : tk F e s 4 = fst F e 3 (s - 48) := rfl
theorem tell_eq {σ : Sto} {t : Nat → Int32} {n : Nat} {R : Int32 × Nat × Fds} {e i : Nat} {F : Fds} (he : e ≤ 10) (hT : TxM σ t n) (hs : Stq σ i 0) (hR : Rch t n R e 0 i 0 F) : ∃ τ, dc_X10_tell (nI e) σ = some τ ∧ TE t n R e F σ τ := by
  obtain ⟨σ1, p1, b1, a1, f1, w1, s1, r1⟩ := digit_st hT hs hR (Or.inl rfl)
  have T1 := f1.tx hT
  have g2 : FrT σ (up σ1 416 0 (4 * e) (lk t n i - 48)) := f1.trans FrT.u
  have T2 := g2.tx hT
  have s2 : Stq (up σ1 416 0 (4 * e) (lk t n i - 48)) p1 b1 := s1.up
  obtain ⟨σ3, p3, b3, a3, f3, w3, s3, r3⟩ := must_st (a := if lk t n p1 = 62 then 1 else 0) s2 r1 (by decide) (by rw [if01, lk_iff (P := fun s => s = 62) (by decide), alw_1])
  have g3 := g2.trans f3
  have T3 := g3.tx hT
  obtain ⟨σ4, p4, b4, a4, f4, w4, s4, r4⟩ := digit_st T3 s3 r3 (Or.inr rfl)
  have g5 : FrT σ (up σ4 416 0 (4 * e + 1) (lk t n p3 - 48)) := (g3.trans f4).trans FrT.u
  have T5 := g5.tx hT
  have s5 : Stq (up σ4 416 0 (4 * e + 1) (lk t n p3 - 48)) p4 b4 := s4.up
  have g6 : FrT σ (up (up σ4 416 0 (4 * e + 1) (lk t n p3 - 48)) 416 0 (4 * e + 2) (if lk t n p4 = 106 then 1 else 0)) := g5.trans FrT.u
  have T6 := g6.tx hT
  have s6 : Stq (up (up σ4 416 0 (4 * e + 1) (lk t n p3 - 48)) 416 0 (4 * e + 2) (if lk t n p4 = 106 then 1 else 0)) p4 b4 := s5.up
  obtain ⟨σ7, p7, b7, a7, f7, w7, s7, r7⟩ := must_st (a := if lk t n p4 = 115 ∨ lk t n p4 = 106 then 1 else 0) s6 r4 (by decide) (by rw [if01, lk_iff (P := fun s => s = 115 ∨ s = 106) (by decide), alw_3])
  have g7 := g6.trans f7
  have T7 := g7.tx hT
  obtain ⟨σ8, p8, b8, a8, f8, w8, s8, r8⟩ := digit_st1 T7 s7 r7
  have g8 := g7.trans f8
  have T8 := g8.tx hT
  have e8 : ∀ x, σ8.1 416 0 x = (up (up σ4 416 0 (4 * e + 1) (lk t n p3 - 48)) 416 0 (4 * e + 2) (if lk t n p4 = 106 then 1 else 0)).1 416 0 x := fun x => by rw [w8, w7]
  have e4 : ∀ x, σ4.1 416 0 x = (up σ1 416 0 (4 * e) (lk t n i - 48)).1 416 0 x := fun x => by rw [w4, w3]
  have e1 : ∀ x, σ1.1 416 0 x = σ.1 416 0 x := fun x => by rw [w1]
  obtain ⟨τ, d1, d2, d3, d4⟩ := digs (R := R) he 4 1 p8 _ (lk t n p7 - 48) b8 σ8 FU (by decide) (by decide) (by decide) s8 T8 r8 (fun _ => ⟨by
      show _ = tk _ e (lk t n p7) 4 e 3
      rw [tk4, fst_eq], fun w hw => by
      rw [e8]
      show _ = tk (tk (tk (tk (tk F e (lk t n i) 0) e (lk t n p1) 1) e (lk t n p3) 2) e (lk t n p4) 3) e (lk t n p7) 4 e w
      rw [tk4, tk3, tk2, tk1, tk0, fst_ne (by omega)]
      rcases (show w = 0 ∨ w = 1 ∨ w = 2 by omega) with rfl | rfl | rfl
      · rw [fst_ne (by omega), fst_ne (by omega), fst_eq, up_nl (by omega), up_nl (by omega), e4, Nat.add_zero, up_eq]
      · rw [fst_ne (by omega), fst_eq, up_nl (by omega), up_eq]
      · rw [fst_eq, up_eq]⟩)
  refine ⟨τ, ?_, g8.trans d2, fun x hx => ?_, ?_⟩
  · unfold dc_X10_tell
    simp only [jn_if, x4z, x4_1, x4_2]
    rw [a1, bd_s, if_pos (inb_nI (show 4 * e < 64 by omega) (by decide)), nI_clamp (by omega), look_eq T2 s2 r1.1, bd_s, a3, bv_s, a4, bd_s, if_pos (inb_nI (show 4 * e + 1 < 64 by omega) (by decide)), nI_clamp (show 4 * e + 1 < 2 ^ 31 by omega), look_eq T5 s5 r4.1, bd_s, if_pos (inb_nI (show 4 * e + 2 < 64 by omega) (by decide)), nI_clamp (show 4 * e + 2 < 2 ^ 31 by omega), look_eq T6 s6 r4.1, bd_s]
    have key : ∀ K : Int32 → Sto → Option Sto, jn K (fun k19 => if lk t n p4 = 115 then k19 1 (up (up σ4 416 0 (4 * e + 1) (lk t n p3 - 48)) 416 0 (4 * e + 2) (if lk t n p4 = 106 then 1 else 0)) else bd (dc_X10_look (up (up σ4 416 0 (4 * e + 1) (lk t n p3 - 48)) 416 0 (4 * e + 2) (if lk t n p4 = 106 then 1 else 0))) fun r36 σ37 => if r36 = 106 then k19 1 σ37 else k19 0 σ37) = K (if lk t n p4 = 115 ∨ lk t n p4 = 106 then 1 else 0) (up (up σ4 416 0 (4 * e + 1) (lk t n p3 - 48)) 416 0 (4 * e + 2) (if lk t n p4 = 106 then 1 else 0)) := fun K => by
      show (if lk t n p4 = 115 then K 1 _ else bd (dc_X10_look _) fun r36 σ37 => if r36 = 106 then K 1 σ37 else K 0 σ37) = _
      rw [look_eq T6 s6 r4.1, bd_s]
      by_cases c : lk t n p4 = 115
      · rw [if_pos c, if_pos (Or.inl c)]
      · rw [if_neg c]
        by_cases c2 : lk t n p4 = 106
        · rw [if_pos c2, if_pos (Or.inr c2)]
        · rw [if_neg c2, if_neg c2, if_neg (fun z => z.elim c c2)]
    rw [key, a7, bv_s, a8, bd_s]
    rw [show nI 1 = (1 : Int32) from rfl] at d1
    rw [← d1]
    simp only [x4z]
  · rw [d3 x hx, e8, up_nl (by omega), up_nl (by omega), e4, up_nl (by omega), e1]
  · obtain ⟨p, b, h1, h2, h3⟩ := d4
    refine ⟨p, b, h1, h2, h3.imp id ?_⟩
    rintro ⟨q0, pl, F', k', q1, q2, q3, q4, q5, q6, q7, q8⟩
    refine ⟨q0, pl, F', k', q1, q2, q3, q4, q5, q6, fun e' w he' => (q7 e' w he').trans ?_, q8⟩
    show tk (tk (tk (tk (tk F e (lk t n i) 0) e (lk t n p1) 1) e (lk t n p3) 2) e (lk t n p4) 3) e (lk t n p7) 4 e' w = F e' w
    rw [tk4, tk3, tk2, tk1, tk0, fst_ne (fun z => he' z.1), fst_ne (fun z => he' z.1), fst_ne (fun z => he' z.1), fst_ne (fun z => he' z.1)]
