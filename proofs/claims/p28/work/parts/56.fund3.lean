/-! a note is funded: the stores -/
theorem msn_adn {m : Mt} {i l : Nat} {k c : Int32} : msn (adn m i l k c) l = msn (nt m i l k c) l := by
  unfold adn
  by_cases h : msn (nt m i l k c) l = 0
  · rw [if_pos h, h]
    unfold msn
    rw [if_neg]
    unfold stt
    rw [upd_ne (by omega), upd_ne (by omega), upd_eq]
    decide
  · rw [if_neg h]
theorem nt_hi {m : Mt} {i l : Nat} {k c : Int32} (hc : Cnt m) (hf : FeOk m i l c) : nt m i l k c (34 + 11 * l + 3) = m (34 + 11 * l + 3) ∧ nt m i l k c (34 + 11 * l) = m (34 + 11 * l) ∧ nt m i l k c (34 + 11 * l + 2) = m (34 + 11 * l + 2) ∧ nb (nt m i l k c) = nb m ∧ na (nt m i l k c) = na m := by
  have ha := hc.a.2
  have hb := hc.b.2
  obtain ⟨f1, f2, -⟩ := hf
  refine ⟨nt_out (by omega) (by omega) (by omega), nt_out (by omega) (by omega) (by omega), nt_out (by omega) (by omega) (by omega), ?_, ?_⟩
  · unfold nb; rw [nt_out (by omega) (by omega) (by omega)]
  · unfold na; rw [nt_out (by omega) (by omega) (by omega)]
/-- the class: the note stands, the cash is taken -/
theorem nt_c {σ : Sto} {m : Mt} {i l : Nat} {k c : Int32} (hc : Cnt m) (h : Cla σ 0 m) (hf : FeOk m i l c) : ∃ τ, (bv (dc_X6_open 0 (nc m) (nI i) (nI l) k c σ) fun σ5 => dc_X5_give 0 (nI i) (-c) (up σ5 86 0 0 ((σ5.1 86 0 0) + (1 : Int32)))) = some τ ∧ FrJ 0 σ τ ∧ Cla τ 0 (nt m i l k c) := by
  obtain ⟨f1, f2, f3, f4, f5, f6, f7⟩ := hf
  have ha := hc.a.2
  have hb := hc.b.2
  have q := h.1.2.2.2.1
  have c7 := Cla_up86 (v := m 3 + 1) (Cla_up102 (v := 0) f7 (Cla_up101 (v := 0) f7 (Cla_up100 (v := c) f7 (Cla_up99 (v := c) f7 (Cla_up98 (v := k) f7 (Cla_up97 (v := nI l) f7 (Cla_up96 (v := nI i) f7 h)))))))
  have cc := clI hc.2.2.1
  have t1 : (m 3 + 1).toInt = (m 3).toInt + 1 := by
    rw [tadd] <;> rw [show (1 : Int32).toInt = 1 from rfl] <;> (have := hc.2.2; omega)
  have hc7 : Cnt (upd (upd (upd (upd (upd (upd (upd (upd m (144 + 7 * nc m) (nI i)) (144 + 7 * nc m + 1) (nI l)) (144 + 7 * nc m + 2) k) (144 + 7 * nc m + 3) c) (144 + 7 * nc m + 4) c) (144 + 7 * nc m + 5) 0) (144 + 7 * nc m + 6) 0) 3 (m 3 + 1)) := by
    unfold Cnt
    rw [upd_eq, t1]
    simp (disch := omega) only [upd_ne]
    exact ⟨hc.1, hc.2.1, by have := hc.2.2; omega, by have := hc.2.2; have f7' : ((m 3).toNatClampNeg : Int) < 60 := Int.ofNat_lt.mpr f7; omega⟩
  have e1 : upd (upd (upd (upd (upd (upd (upd (upd m (144 + 7 * nc m) (nI i)) (144 + 7 * nc m + 1) (nI l)) (144 + 7 * nc m + 2) k) (144 + 7 * nc m + 3) c) (144 + 7 * nc m + 4) c) (144 + 7 * nc m + 5) 0) (144 + 7 * nc m + 6) 0) 3 (m 3 + 1) (10 + 3 * i) = m (10 + 3 * i) := by
    simp (disch := omega) only [upd_ne]
  have e2 : i < na (upd (upd (upd (upd (upd (upd (upd (upd m (144 + 7 * nc m) (nI i)) (144 + 7 * nc m + 1) (nI l)) (144 + 7 * nc m + 2) k) (144 + 7 * nc m + 3) c) (144 + 7 * nc m + 4) c) (144 + 7 * nc m + 5) 0) (144 + 7 * nc m + 6) 0) 3 (m 3 + 1)) := by
    unfold na
    simp (disch := omega) only [upd_ne]
    exact f1
  have g := xgive_eq (v := -c) c7 hc7 e2
  rw [e1, ← Int32.sub_eq_add_neg] at g
  refine ⟨_, ?_, ?_, Cla_up48 (v := m (10 + 3 * i) - c) (i0 := i) (by omega) c7⟩
  · unfold dc_X6_open
    simp only [lt]
    rw [bv_s]
    simp (disch := decide) only [up_ne]
    rw [q]
    exact g
  · exact FrJ_up rfl (FrJ_up rfl (FrJ_up rfl (FrJ_up rfl (FrJ_up rfl (FrJ_up rfl (FrJ_up rfl (FrJ_up rfl (FrJ_up rfl (FrJ.refl 0 σ)))))))))
theorem stt_c {σ : Sto} {m : Mt} {l : Nat} (h : Cla σ 0 m) (hl : l < 10) (hq : 1 ≤ (m (34 + 11 * l + 2)).toInt) : ∃ τ, dc_X4_start 0 l σ = some τ ∧ FrJ 0 σ τ ∧ Cla τ 0 (stt m l) := by
  have q := h.2.2.1 l hl
  unfold dc_X4_start
  simp only [lt]
  simp (disch := decide) only [up_ne]
  rw [q.1, q.2.2.1, cdiv_eq hq, bd_s]
  refine ⟨_, rfl, FrJ_up rfl (FrJ_up rfl (FrJ_up rfl (FrJ.refl 0 σ))), ?_⟩
  exact Cla_up69 (v := (m (34 + 11 * l) + m (34 + 11 * l + 2) - 1) / m (34 + 11 * l + 2)) hl (Cla_up68 (v := m (34 + 11 * l)) hl (Cla_up64 (v := 1) hl h))
theorem adn_c {K : Int} {σ : Sto} {m : Mt} {i l : Nat} {k c : Int32} (hI : InvM K m) (h : Cla σ 0 m) (hf : FeOk m i l c) (h01 : k = 0 ∨ k = 1) (h0 : fe m (nI i) (nI l) c = 0) : ∃ τ, dc_X5_addNote 0 (nI i) (nI l) k c σ = some τ ∧ FrJ 0 σ τ ∧ Cla τ 0 (adn m i l k c) := by
  have hc := hI.1
  have ha := hc.a.2
  have hb := hc.b.2
  obtain ⟨f1, f2, f3, f4, f5, f6, f7⟩ := id hf
  obtain ⟨n1, n2, n3, n4, n5⟩ := nt_hi (k := k) hc hf
  obtain ⟨τ, t1, t2, t3⟩ := nt_c (k := k) hc h hf
  have cN := cnt_nt (l := l) (k := k) (c := c) hc f7 (show i < 8 by omega)
  have kN := kin_nt (l := l) (c := c) hc hI.kin f7 (show i < 8 by omega) h01
  have e3 : σ.1 86 0 0 = nI (nc m) := h.1.2.2.2.1.trans hc.c.1
  have em := xmsn_eq t3 cN kN (l := l) (by rw [n4]; exact f2)
  have pre : dc_X5_addNote 0 (nI i) (nI l) k c σ = if msn (nt m i l k c) l = 0 then dc_X4_start 0 l τ else some τ := by
    unfold dc_X5_addNote
    rw [fe_c hI h, bd_s, h0, if_pos rfl, e3, if_pos (inb_nI f7 (by decide)), nI_clamp (by omega)]
    revert t1
    cases dc_X6_open 0 (nc m) (nI i) (nI l) k c σ with
    | none => intro t1; exact absurd t1 (by intro z; cases z)
    | some υ =>
      intro t1
      rw [bv_s] at t1
      rw [bv_s, t1, bv_s, em, bd_s, if_pos (inb_nI (show l < 10 by omega) (by decide)), nI_clamp (by omega)]
      cases dc_X4_start 0 l τ <;> rfl
  rw [pre]
  unfold adn
  by_cases hz : msn (nt m i l k c) l = 0
  · rw [if_pos hz, if_pos hz]
    obtain ⟨υ, v1, v2, v3⟩ := stt_c t3 (show l < 10 by omega) (by rw [n3]; exact (hI.2.2.2.2.2.1 l f2).2.2.1.1)
    exact ⟨υ, v1, t2.trans v2, v3⟩
  · rw [if_neg hz, if_neg hz]
    exact ⟨τ, rfl, t2, t3⟩
/-! the reference -/
theorem fu_no {K : Int} {σ : Sto} {m : Mt} (hI : InvM K m) (h : Mod σ m) (a1 a2 k c : Int32) (h0 : ¬ fe m a1 a2 c = 0) : dc_X10_funds a1 a2 k c σ = some (fe m a1 a2 c, σ) := by
  have hc := hI.1
  refine Or.resolve_right ?_ h0
  unfold dc_X10_funds fe
  rw [isI_eq h hc, bd_s]
  by_cases h1 : isI m a1
  · rw [if_pos h1, if_neg (by decide), if_neg (not_not_intro h1), isL_eq h hc, bd_s]
    by_cases h2 : isL m a2
    · obtain ⟨i, hi, rfl⟩ := isI_of hc h1
      obtain ⟨l, hl, rfl⟩ := isL_of hc h2
      have ha := hc.a.2
      have hb := hc.b.2
      have hcc := hc.c
      rw [if_pos h2, if_neg (by decide), if_neg (not_not_intro h2), nI_clamp (by omega), nI_clamp (by omega), in_eq, bd_s]
      by_cases c1 : c < 1
      · rw [if_pos c1, if_pos c1, if_pos rfl]; exact Or.inl rfl
      · rw [if_neg c1, if_neg c1]
        by_cases c2 : c ≤ 99999
        · rw [if_neg (not_not_intro c2), if_neg (show ¬ (99999 : Int32) < c by rw [tlt]; rw [tle] at c2; omega), if_neg (by decide), of_3 h (by omega), bd_s]
          by_cases c3 : m (34 + 11 * l + 3) = 0
          · rw [if_pos c3, if_neg (not_not_intro c3), msn_eq h hc (by omega), bd_s]
            by_cases c4 : msn m l < c
            · rw [if_pos c4, if_pos c4]; exact Or.inl rfl
            · rw [if_neg c4, if_neg c4, x10, if_pos (inb_nI (show 10 + 3 * i < 564 by omega) (by decide)), nI_clamp (by omega), h _ (by omega)]
              by_cases c5 : c ≤ m (10 + 3 * i)
              · rw [if_pos c5, if_neg (not_not_intro c5), if_pos ib_3, cl_3, h 3 (by decide), hcc.1]
                by_cases c6 : nc m = 60
                · rw [if_pos c6, c6, if_pos (by decide)]; exact Or.inl rfl
                · rw [if_neg c6]; exact Or.inr rfl
              · rw [if_neg c5, if_pos c5]; exact Or.inl rfl
          · rw [if_neg c3, if_pos c3]; exact Or.inl rfl
        · rw [if_pos c2, if_pos (show (99999 : Int32) < c by rw [tlt]; rw [tle] at c2; omega), if_pos rfl]; exact Or.inl rfl
    · rw [if_neg h2, if_pos rfl, if_pos h2]; exact Or.inl rfl
  · rw [if_neg h1, if_pos rfl, if_pos h1]; exact Or.inl rfl
