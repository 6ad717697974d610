/-! a note is funded, on both sides -/
theorem InvM_adn {K : Int} {m : Mt} (h : InvM K m) {i l : Nat} {k c : Int32} (hf : FeOk m i l c) (h01 : k = 0 ∨ k = 1) : InvM K (adn m i l k c) := by
  obtain ⟨f1, f2, f3, f4, f5, f6, f7⟩ := hf
  have hc := h.1
  have ha := hc.a.2
  have hb := hc.b.2
  obtain ⟨i1, i2, i3, i4, i5, i6, i7, i8, i9⟩ := id h
  obtain ⟨q0, q1, q2, q3, q6⟩ := nt_n (m := m) (i := i) (l := l) (k := k) (c := c) (by omega)
  have cN := cnt_nt (l := l) (k := k) (c := c) hc f7 (show i < 8 by omega)
  have nN := nc_nt (i := i) (l := l) (k := k) (c := c) hc f7
  have g : ∀ x, x ≠ 3 → x ≠ 10 + 3 * i → x < 144 + 7 * nc m → nt m i l k c x = m x := fun x y1 y2 y3 => nt_out (by omega) y1 y2
  have sN : ∀ l2, l2 < 10 → siN (nt m i l k c) (nI l2) = siN m (nI l2) + if l2 = l then c.toInt else 0 := fun l2 hl2 => siN_nt hc f7 (by omega) l2 hl2 (by omega)
  have k1 := i6 l f2
  have z3 : (3 : Int32) ≠ 0 := by decide
  have nbN : nb (nt m i l k c) = nb m := by unfold nb; rw [g 2 (by omega) (by omega) (by omega)]
  have naN : na (nt m i l k c) = na m := by unfold na; rw [g 1 (by omega) (by omega) (by omega)]
  have lok : ∀ l2, l2 < nb m → LoK (nt m i l k c) (34 + 11 * l2) := fun l2 hl2 => (i6 l2 hl2).congr (g 0 (by omega) (by omega) (by omega)) (fun w hw => g _ (by omega) (by omega) (by omega))
  have nok : ∀ n, n < nc m + 1 → NoK (nt m i l k c) (144 + 7 * n) := fun n hn => by
    by_cases en : n = nc m
    · subst en
      unfold NoK isI isL
      rw [q0, q1, q2, q3, q6, g 1 (by omega) (by omega) (by omega), g 2 (by omega) (by omega) (by omega)]
      exact ⟨isI_nI hc f1, isL_nI hc f2, h01, by omega, fun _ => rfl⟩
    · obtain ⟨u1, u2, u3, u4, u5⟩ := i7 n (by omega)
      have ul : (m (144 + 7 * n + 1)).toNatClampNeg < nb m := by
        have := clI u2.1
        have := clI hc.2.1.1
        have := u2.2
        unfold nb
        omega
      unfold NoK isI isL
      rw [g 1 (by omega) (by omega) (by omega), g 2 (by omega) (by omega) (by omega), g (144 + 7 * n) (by omega) (by omega) (by omega), g (144 + 7 * n + 1) (by omega) (by omega) (by omega), g (144 + 7 * n + 2) (by omega) (by omega) (by omega), g (144 + 7 * n + 3) (by omega) (by omega) (by omega), g (144 + 7 * n + 6) (by omega) (by omega) (by omega), g (34 + 11 * (m (144 + 7 * n + 1)).toNatClampNeg + 3) (by omega) (by omega) (by omega)]
      exact ⟨u1, u2, u3, u4, u5⟩
  have cash : ∀ j, j < 8 → 0 ≤ (nt m i l k c (10 + 3 * j)).toInt := fun j hj => by
    by_cases ej : j = i
    · rw [ej, nt_cash]
      have := thi (m (10 + 3 * i))
      rw [tsub] <;> omega
    · rw [g _ (by omega) (by omega) (by omega)]; exact i5 j hj
  have dead : ∀ j, na m ≤ j → j < 8 → nt m i l k c (10 + 3 * j + 1) = 0 ∧ nt m i l k c (10 + 3 * j + 2) = 0 := fun j h1 h2 => by
    rw [g _ (by omega) (by omega) (by omega), g _ (by omega) (by omega) (by omega)]; exact i9 j h1 h2
  have hpr : pr (nt m i l k c) (nI l) 2 = pr (nt m i l k c) (nI l) 2 := rfl
  -- all but the sum of the loan
  have base : (m (34 + 11 * l + 3) = 0 → siN (nt m i l k c) (nI l) < (m (34 + 11 * l)).toInt) → InvM K (nt m i l k c) := fun hs => by
    refine ⟨cN, by rw [g 0 (by omega) (by omega) (by omega)]; exact i2, by rw [g 5 (by omega) (by omega) (by omega)]; exact i3, by rw [g 4 (by omega) (by omega) (by omega)]; exact i4, cash, fun l2 hl2 => lok l2 (by rw [nbN] at hl2; exact hl2), fun n hn => nok n (by rw [nN] at hn; exact hn), fun l2 hl2 => ?_, fun j h1 h2 => dead j (by rw [naN] at h1; exact h1) h2⟩
    rw [nbN] at hl2
    unfold SmK
    rw [g (34 + 11 * l2) (by omega) (by omega) (by omega), g (34 + 11 * l2 + 3) (by omega) (by omega) (by omega), g (34 + 11 * l2 + 4) (by omega) (by omega) (by omega)]
    by_cases el : l2 = l
    · subst el
      exact ⟨fun z => absurd (z.symm.trans f4) (by decide), hs⟩
    · rw [sN l2 (by omega), if_neg el, Int.add_zero]
      exact i8 l2 hl2
  -- the missing coins
  have prN : (pr (nt m i l k c) (nI l) 2).toInt = siN m (nI l) + c.toInt := by
    -- a state that differs only in what no sum sees
    have hh : InvM K (upd (nt m i l k c) (34 + 11 * l + 3) 2) := by
      refine ⟨cN.same (upd_ne (by omega)) (upd_ne (by omega)) (upd_ne (by omega)), by rw [upd_ne (by omega), g 0 (by omega) (by omega) (by omega)]; exact i2, by rw [upd_ne (by omega), g 5 (by omega) (by omega) (by omega)]; exact i3, by rw [upd_ne (by omega), g 4 (by omega) (by omega) (by omega)]; exact i4, fun j hj => by rw [upd_ne (by omega)]; exact cash j hj, fun l2 hl2 => ?_, fun n hn => ?_, fun l2 hl2 => ?_, fun j h1 h2 => ?_⟩
      · have hl2' : l2 < nb m := by unfold nb at hl2; rw [upd_ne (by omega)] at hl2; rw [← nbN]; exact hl2
        by_cases el : l2 = l
        · subst el
          obtain ⟨a1, a2, a3, a4, a5, a6, a7, a8, a9, a10, a11, a12⟩ := lok l2 hl2'
          have a12' := a12 (by rw [g _ (by omega) (by omega) (by omega), f4]; decide)
          unfold LoK
          rw [upd_eq, upd_ne (show 0 ≠ 34 + 11 * l2 + 3 by omega), upd_ne (show 34 + 11 * l2 ≠ 34 + 11 * l2 + 3 by omega), upd_ne (show 34 + 11 * l2 + 1 ≠ 34 + 11 * l2 + 3 by omega), upd_ne (show 34 + 11 * l2 + 2 ≠ 34 + 11 * l2 + 3 by omega), upd_ne (show 34 + 11 * l2 + 4 ≠ 34 + 11 * l2 + 3 by omega), upd_ne (show 34 + 11 * l2 + 5 ≠ 34 + 11 * l2 + 3 by omega), upd_ne (show 34 + 11 * l2 + 6 ≠ 34 + 11 * l2 + 3 by omega), upd_ne (show 34 + 11 * l2 + 7 ≠ 34 + 11 * l2 + 3 by omega), upd_ne (show 34 + 11 * l2 + 8 ≠ 34 + 11 * l2 + 3 by omega), upd_ne (show 34 + 11 * l2 + 9 ≠ 34 + 11 * l2 + 3 by omega), upd_ne (show 34 + 11 * l2 + 10 ≠ 34 + 11 * l2 + 3 by omega)]
          exact ⟨a1, a2, a3, by decide, a5, fun z => absurd z (by decide), a7, a8, a9, a10, a11, fun _ => a12'⟩
        · exact (lok l2 hl2').congr (upd_ne (by omega)) (fun w hw => upd_ne (by omega))
      · have hn' : n < nc m + 1 := by unfold nc at hn; rw [upd_ne (by omega)] at hn; rw [← nN]; exact hn
        obtain ⟨u1, u2, u3, u4, u5⟩ := nok n hn'
        have ul : (nt m i l k c (144 + 7 * n + 1)).toNatClampNeg < nb m := by
          have := clI u2.1
          have := clI hc.2.1.1
          have := u2.2
          rw [g 2 (by omega) (by omega) (by omega)] at this
          unfold nb
          omega
        unfold NoK isI isL
        rw [upd_ne (show 1 ≠ 34 + 11 * l + 3 by omega), upd_ne (show 2 ≠ 34 + 11 * l + 3 by omega), upd_ne (show 144 + 7 * n ≠ 34 + 11 * l + 3 by omega), upd_ne (show 144 + 7 * n + 1 ≠ 34 + 11 * l + 3 by omega), upd_ne (show 144 + 7 * n + 2 ≠ 34 + 11 * l + 3 by omega), upd_ne (show 144 + 7 * n + 3 ≠ 34 + 11 * l + 3 by omega), upd_ne (show 144 + 7 * n + 6 ≠ 34 + 11 * l + 3 by omega)]
        refine ⟨u1, u2, u3, u4, fun z => u5 ?_⟩
        by_cases ee : (nt m i l k c (144 + 7 * n + 1)).toNatClampNeg = l
        · rw [ee, g _ (by omega) (by omega) (by omega), f4]; decide
        · rw [upd_ne (by omega)] at z; exact z
      · have hl2' : l2 < nb m := by unfold nb at hl2; rw [upd_ne (by omega)] at hl2; rw [← nbN]; exact hl2
        unfold SmK
        rw [siN_out (m := nt m i l k c) (upd_ne (by omega)) (fun x hx => upd_ne (by omega)), upd_ne (show 34 + 11 * l2 ≠ 34 + 11 * l + 3 by omega), upd_ne (show 34 + 11 * l2 + 4 ≠ 34 + 11 * l + 3 by omega), g (34 + 11 * l2) (by omega) (by omega) (by omega), g (34 + 11 * l2 + 4) (by omega) (by omega) (by omega)]
        by_cases el : l2 = l
        · rw [el, upd_eq]; exact ⟨fun z => absurd z (by decide), fun z => absurd z (by decide)⟩
        · rw [upd_ne (by omega), g _ (by omega) (by omega) (by omega), sN l2 (by omega), if_neg el, Int.add_zero]
          exact i8 l2 hl2'
      · have h1' : na m ≤ j := by unfold na at h1; rw [upd_ne (by omega)] at h1; rw [← naN]; exact h1
        rw [upd_ne (by omega), upd_ne (by omega)]
        exact dead j h1' h2
    have e1 := (pr_si hh (nI l)).1
    rw [siN_out (m := nt m i l k c) (upd_ne (by omega)) (fun x hx => upd_ne (by omega)), sN l (by omega), if_pos rfl] at e1
    rw [← e1]
    unfold pr nc
    rw [upd_ne (show 3 ≠ 34 + 11 * l + 3 by omega)]
    refine congrArg _ (itN_congr fun x y _ _ => ?_)
    rw [upd_ne (show 144 + 7 * x + 1 ≠ 34 + 11 * l + 3 by omega), upd_ne (show 144 + 7 * x + 2 ≠ 34 + 11 * l + 3 by omega), upd_ne (show 144 + 7 * x + 3 ≠ 34 + 11 * l + 3 by omega)]
  have hsb := (pr_si h (nI l)).2
  have ek := k1.1
  have em : (msn (nt m i l k c) l).toInt = (m (34 + 11 * l)).toInt - (siN m (nI l) + c.toInt) := by
    unfold msn
    rw [if_pos (by rw [g _ (by omega) (by omega) (by omega)]; exact f4), g (34 + 11 * l) (by omega) (by omega) (by omega), tsub] <;> rw [prN] <;> omega
  unfold adn
  by_cases hz : msn (nt m i l k c) l = 0
  · rw [if_pos hz]
    rw [hz, show (0 : Int32).toInt = 0 from rfl] at em
    have hu := updiv (p := m (34 + 11 * l)) (q := m (34 + 11 * l + 2)) (by omega) (by omega) k1.2.2.1.1 k1.2.2.1.2
    have gs : ∀ x, x ≠ 34 + 11 * l + 3 → x ≠ 34 + 11 * l + 4 → x ≠ 34 + 11 * l + 5 → stt (nt m i l k c) l x = nt m i l k c x := fun x y1 y2 y3 => by unfold stt; rw [upd_ne y3, upd_ne y2, upd_ne y1]
    have g3 : stt (nt m i l k c) l (34 + 11 * l + 3) = 1 := by unfold stt; rw [upd_ne (by omega), upd_ne (by omega), upd_eq]
    have g4 : stt (nt m i l k c) l (34 + 11 * l + 4) = m (34 + 11 * l) := by unfold stt; rw [upd_ne (by omega), upd_eq, g _ (by omega) (by omega) (by omega)]
    have g5 : stt (nt m i l k c) l (34 + 11 * l + 5) = (m (34 + 11 * l) + m (34 + 11 * l + 2) - 1) / m (34 + 11 * l + 2) := by unfold stt; rw [upd_eq, g _ (by omega) (by omega) (by omega), g _ (by omega) (by omega) (by omega)]
    refine ⟨cN.same (gs 1 (by omega) (by omega) (by omega)) (gs 2 (by omega) (by omega) (by omega)) (gs 3 (by omega) (by omega) (by omega)), by rw [gs 0 (by omega) (by omega) (by omega), g 0 (by omega) (by omega) (by omega)]; exact i2, by rw [gs 5 (by omega) (by omega) (by omega), g 5 (by omega) (by omega) (by omega)]; exact i3, by rw [gs 4 (by omega) (by omega) (by omega), g 4 (by omega) (by omega) (by omega)]; exact i4, fun j hj => by rw [gs _ (by omega) (by omega) (by omega)]; exact cash j hj, fun l2 hl2 => ?_, fun n hn => ?_, fun l2 hl2 => ?_, fun j h1 h2 => ?_⟩
    · have hl2' : l2 < nb m := by unfold nb at hl2; rw [gs 2 (by omega) (by omega) (by omega)] at hl2; rw [← nbN]; exact hl2
      by_cases el : l2 = l
      · subst el
        obtain ⟨a1, a2, a3, a4, a5, a6, a7, a8, a9, a10, a11, a12⟩ := lok l2 hl2'
        obtain ⟨b1, b2, b3, b4, b5⟩ := a12 (by rw [g _ (by omega) (by omega) (by omega), f4]; decide)
        unfold LoK
        rw [g3, g4, g5, gs 0 (by omega) (by omega) (by omega), gs (34 + 11 * l2) (by omega) (by omega) (by omega), gs (34 + 11 * l2 + 1) (by omega) (by omega) (by omega), gs (34 + 11 * l2 + 2) (by omega) (by omega) (by omega), gs (34 + 11 * l2 + 6) (by omega) (by omega) (by omega), gs (34 + 11 * l2 + 7) (by omega) (by omega) (by omega), gs (34 + 11 * l2 + 8) (by omega) (by omega) (by omega), gs (34 + 11 * l2 + 9) (by omega) (by omega) (by omega), gs (34 + 11 * l2 + 10) (by omega) (by omega) (by omega)]
        refine ⟨a1, a2, a3, by decide, by omega, fun _ => hu, a7, ⟨a8.1, ?_⟩, a9, a10, a11, fun z => absurd rfl z⟩
        rw [b3, show (0 : Int32).toInt = 0 from rfl]
        omega
      · exact (lok l2 hl2').congr (gs 0 (by omega) (by omega) (by omega)) (fun w hw => gs _ (by omega) (by omega) (by omega))
    · have hn' : n < nc m + 1 := by unfold nc at hn; rw [gs 3 (by omega) (by omega) (by omega)] at hn; rw [← nN]; exact hn
      obtain ⟨u1, u2, u3, u4, u5⟩ := nok n hn'
      have ul : (nt m i l k c (144 + 7 * n + 1)).toNatClampNeg < nb m := by
        have := clI u2.1
        have := clI hc.2.1.1
        have := u2.2
        rw [g 2 (by omega) (by omega) (by omega)] at this
        unfold nb
        omega
      unfold NoK isI isL
      rw [gs 1 (by omega) (by omega) (by omega), gs 2 (by omega) (by omega) (by omega), gs (144 + 7 * n) (by omega) (by omega) (by omega), gs (144 + 7 * n + 1) (by omega) (by omega) (by omega), gs (144 + 7 * n + 2) (by omega) (by omega) (by omega), gs (144 + 7 * n + 3) (by omega) (by omega) (by omega), gs (144 + 7 * n + 6) (by omega) (by omega) (by omega)]
      refine ⟨u1, u2, u3, u4, fun z => u5 ?_⟩
      by_cases ee : (nt m i l k c (144 + 7 * n + 1)).toNatClampNeg = l
      · rw [ee, g _ (by omega) (by omega) (by omega), f4]; decide
      · rw [gs _ (by omega) (by omega) (by omega)] at z; exact z
    · have hl2' : l2 < nb m := by unfold nb at hl2; rw [gs 2 (by omega) (by omega) (by omega)] at hl2; rw [← nbN]; exact hl2
      unfold SmK
      rw [siN_out (m := nt m i l k c) (gs 3 (by omega) (by omega) (by omega)) (fun x hx => gs x (by omega) (by omega) (by omega)), sN l2 (by omega)]
      by_cases el : l2 = l
      · rw [el, g3, g4, if_pos rfl]
        exact ⟨fun _ => by omega, fun z => absurd z (by decide)⟩
      · rw [gs (34 + 11 * l2) (by omega) (by omega) (by omega), gs (34 + 11 * l2 + 3) (by omega) (by omega) (by omega), gs (34 + 11 * l2 + 4) (by omega) (by omega) (by omega), g (34 + 11 * l2) (by omega) (by omega) (by omega), g (34 + 11 * l2 + 3) (by omega) (by omega) (by omega), g (34 + 11 * l2 + 4) (by omega) (by omega) (by omega), if_neg el, Int.add_zero]
        exact i8 l2 hl2'
    · have h1' : na m ≤ j := by unfold na at h1; rw [gs 1 (by omega) (by omega) (by omega)] at h1; rw [← naN]; exact h1
      rw [gs _ (by omega) (by omega) (by omega), gs _ (by omega) (by omega) (by omega)]
      exact dead j h1' h2
  · rw [if_neg hz]
    refine base fun _ => ?_
    rw [sN l (by omega), if_pos rfl]
    rw [teq, em, show (0 : Int32).toInt = 0 from rfl] at hz
    omega
