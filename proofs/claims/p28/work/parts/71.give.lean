/-! what remains true when notes are paid -/
theorem InvM_pay {K K' : Int} {m m' : Mt} {l0 : Nat} (h : InvM K m) (hl0 : l0 < nb m) (e0 : m' 0 = m 0) (e1 : m' 1 = m 1) (e2 : m' 2 = m 2) (e3 : m' 3 = m 3) (e5 : m' 5 = m 5) (hpool : 0 ≤ (m' 4).toInt ∧ (m' 4).toInt ≤ K')
    (hcash : ∀ i, i < 8 → 0 ≤ (m' (10 + 3 * i)).toInt) (hdead : ∀ i, na m ≤ i → i < 8 → m' (10 + 3 * i + 1) = 0 ∧ m' (10 + 3 * i + 2) = 0)
    (ho : ∀ l, l < 10 → l ≠ l0 → ∀ w, w < 11 → m' (34 + 11 * l + w) = m (34 + 11 * l + w)) (hL : LoK m' (34 + 11 * l0))
    (hN : ∀ n, n < nc m → ∀ w, w < 3 → m' (144 + 7 * n + w) = m (144 + 7 * n + w)) (hP : ∀ n, n < nc m → 0 ≤ (m' (144 + 7 * n + 3)).toInt ∧ (m' (144 + 7 * n + 3)).toInt ≤ 99999)
    (hPo : ∀ n, n < nc m → ¬ m (144 + 7 * n + 1) = nI l0 → m' (144 + 7 * n + 3) = m (144 + 7 * n + 3) ∧ m' (144 + 7 * n + 6) = m (144 + 7 * n + 6))
    (hF : ¬ m' (34 + 11 * l0 + 3) = 3 → ∀ n, n < nc m → m (144 + 7 * n + 1) = nI l0 → m' (144 + 7 * n + 6) = 0) (hS : SmK m' l0) : InvM K' m' := by
  obtain ⟨i1, i2, i3, i4, i5, i6, i7, i8, i9⟩ := h
  have hb := i1.b.2
  have nb' : nb m' = nb m := by unfold nb; rw [e2]
  have nc' : nc m' = nc m := by unfold nc; rw [e3]
  have na' : na m' = na m := by unfold na; rw [e1]
  refine ⟨i1.same e1 e2 e3, by rw [e0]; exact i2, by rw [e5]; exact i3, hpool, hcash, fun l hl => ?_, fun n hn => ?_, fun l hl => ?_, fun i h1 h2 => hdead i (by rw [na'] at h1; exact h1) h2⟩
  · rw [nb'] at hl
    by_cases e : l = l0
    · rw [e]; exact hL
    · exact (i6 l hl).congr e0 (fun w hw => ho l (by omega) e w hw)
  · rw [nc'] at hn
    obtain ⟨u1, u2, u3, u4, u5⟩ := i7 n hn
    have ul : (m (144 + 7 * n + 1)).toNatClampNeg < nb m := by
      have := clI u2.1
      have := clI i1.2.1.1
      have := u2.2
      unfold nb
      omega
    have h0 := hN n hn 0 (by omega)
    have h1 := hN n hn 1 (by omega)
    have h2 := hN n hn 2 (by omega)
    unfold NoK isI isL
    rw [e1, e2, show 144 + 7 * n = 144 + 7 * n + 0 from rfl, h0, Nat.add_zero, h1, h2]
    refine ⟨u1, u2, u3, hP n hn, fun z => ?_⟩
    by_cases e : m (144 + 7 * n + 1) = nI l0
    · refine hF ?_ n hn e
      rw [e, nI_clamp (by omega)] at z
      exact z
    · rw [(hPo n hn e).2]
      refine u5 ?_
      have hne : (m (144 + 7 * n + 1)).toNatClampNeg ≠ l0 := fun q => e (by rw [← q]; exact nIe u2.1)
      rw [ho _ (by omega) hne 3 (by omega)] at z
      exact z
  · rw [nb'] at hl
    by_cases e : l = l0
    · rw [e]; exact hS
    · have q := i8 l hl
      have es : siN m' (nI l) = siN m (nI l) := by
        unfold siN
        rw [nc']
        refine si_congr fun n hn => ?_
        rw [hN n hn 1 (by omega)]
        by_cases c : m (144 + 7 * n + 1) = nI l
        · rw [if_pos c, if_pos c, (hPo n hn (by rw [c, nI_eq (by omega) (by omega)]; exact e)).1]
        · rw [if_neg c, if_neg c]
      unfold SmK
      have a0 := ho l (by omega) e 0 (by omega)
      rw [Nat.add_zero] at a0
      rw [es, a0, ho l (by omega) e 3 (by omega), ho l (by omega) e 4 (by omega)]
      exact q
theorem sG_dead {m : Mt} {g : Gf} {i : Nat} (hc : Cnt m) (hh : Hd m) (hi : na m ≤ i) (hi8 : i < 8) : ∀ j, j ≤ nc m → sG m g i j = 0 ∧ CI m g i j = 0
  | 0, _ => ⟨rfl, rfl⟩
  | j + 1, hj => by
    obtain ⟨a, b⟩ := sG_dead hc hh hi hi8 j (by omega)
    obtain ⟨i', hi', he⟩ := isI_of hc (hh j (by omega))
    have ne : ¬ m (144 + 7 * j) = nI i := by
      rw [he, nI_eq (by omega) (by omega)]
      omega
    rw [sG_succ, CI_succ, if_neg ne, if_neg ne, a, b]
    exact ⟨rfl, rfl⟩
theorem sG_int {m : Mt} {g : Gf} {i : Nat} : ∀ j, j ≤ 60 → (∀ n, n < j → 0 ≤ (g n).toInt ∧ (g n).toInt ≤ 2000000) → (sG m g i j).toInt = CI m g i j
  | 0, _, _ => rfl
  | j + 1, hj, hg => by
    have ih := sG_int (m := m) (g := g) (i := i) j (by omega) fun n hn => hg n (by omega)
    have b := CI_b (m := m) (g := g) (i := i) (j := j) fun n hn => hg n (by omega)
    have gj := hg j (by omega)
    rw [sG_succ, CI_succ]
    by_cases c : m (144 + 7 * j) = nI i
    · rw [if_pos c, if_pos c, tadd] <;> rw [ih] <;> omega
    · rw [if_neg c, if_neg c, ih, Int.add_zero]
theorem cash_fit {m : Mt} {gi gp : Gf} (hc : Cnt m) (hh : Hd m) (h0 : ∀ i, i < 8 → 0 ≤ (m (10 + 3 * i)).toInt) (hg : ∀ n, n < nc m → 0 ≤ (gi n + gp n).toInt ∧ (gi n + gp n).toInt ≤ 2000000) (hf : Fit m (fun n => gi n + gp n)) (i : Nat) (hi : i < 8) : 0 ≤ (coJ m gi gp (nc m) (10 + 3 * i)).toInt := by
  have hn := hc.c.2
  rw [coJ_c hi]
  by_cases d : na m ≤ i
  · rw [(sG_dead hc hh d hi (nc m) (Nat.le_refl _)).1, Int32.add_zero]; exact h0 i hi
  · have e := sG_int (m := m) (g := fun n => gi n + gp n) (i := i) (nc m) hn hg
    have b := CI_b (m := m) (g := fun n => gi n + gp n) (i := i) (j := nc m) hg
    have f := hf i (by omega)
    have := h0 i hi
    rw [tadd] <;> rw [e] <;> omega
theorem RS.start {σ : Sto} {Z : Zt} {K : Int} (hI : InvM K Z.1) (h : RMid σ Z Z.1 0) : RS σ Z Z.1 (fun i => (Z.1 (10 + 3 * i)).toInt) :=
  ⟨Z.1, 0, h, fun _ _ _ => rfl, Or.inl ⟨rfl, fun i hi => ⟨rfl, rfl, hI.2.2.2.2.1 i hi, by have := thi (Z.1 (10 + 3 * i)); show (Z.1 (10 + 3 * i)).toInt ≤ 2147483647; omega⟩⟩⟩
/-- the end of what was paid out -/
theorem RS.fin {σ : Sto} {Z : Zt} {E m : Mt} {C : Nat → Int} {g : Gf} (h : RS σ Z E C) (hc : Cnt m) (hh : Hd m) (hC : ∀ i, i < 8 → C i = (m (10 + 3 * i)).toInt + CI m g i (nc m)) (r : Int32) :
    (Fit m g → ∃ τ, dc_X10_acted r σ = some (r, τ) ∧ RMo τ (pushZ Z E) ∧ SameC σ τ) ∧ (¬ Fit m g → ∃ τ, dc_X10_acted r σ = some (-3, τ) ∧ RMo τ Z ∧ SameC σ τ) := by
  have ha := hc.a.2
  obtain ⟨m', o, a, b, ⟨rfl, e⟩ | ⟨rfl, i, hi, e⟩⟩ := h
  · have hf : Fit m g := fun i hi => by
      have := (e i (by omega)).2.2.2
      rw [hC i (by omega)] at this
      exact this
    have hE : ∀ k, k < 564 → m' k = E k := fun k hk => by
      by_cases c : isCash k
      · have := (e ((k - 10) / 3) (by have := c.2.1; omega)).1
        rw [show 10 + 3 * ((k - 10) / 3) = k by have := c.1; have := c.2.2; omega] at this
        exact this
      · exact b k hk c
    exact ⟨fun _ => acted_eq r (a.congr hE), fun z => absurd hf z⟩
  · have nf : ¬ Fit m g := fun z => by
      rw [hC i hi] at e
      by_cases d : na m ≤ i
      · rw [(sG_dead hc hh d hi (nc m) (Nat.le_refl _)).2] at e
        have := thi (m (10 + 3 * i))
        omega
      · have := z i (by omega)
        omega
    exact ⟨fun z => absurd z nf, fun _ => acted_over r (by decide) a⟩
/-! a loan is given up -/
def endM (m : Mt) (l : Nat) (s : Int32) : Mt := upd (upd (upd (upd (upd (upd m (34 + 11 * l + 3) s) (34 + 11 * l + 4) 0) (34 + 11 * l + 6) 0) (34 + 11 * l + 7) 0) (34 + 11 * l + 8) 0) (34 + 11 * l + 10) (-5)
theorem end_c {σ : Sto} {m : Mt} {l : Nat} {s : Int32} (hl : l < 10) (h : Cla σ 0 m) : ∃ τ, dc_X4_end 0 l s σ = some τ ∧ FrJ 0 σ τ ∧ Cla τ 0 (endM m l s) := by
  unfold dc_X4_end
  simp only [lt]
  exact ⟨_, rfl, FrJ_up rfl (FrJ_up rfl (FrJ_up rfl (FrJ_up rfl (FrJ_up rfl (FrJ_up rfl (FrJ.refl 0 σ)))))), Cla_up74 hl (Cla_up72 hl (Cla_up71 hl (Cla_up70 hl (Cla_up68 hl (Cla_up64 hl h)))))⟩
theorem give_c {σ : Sto} {m : Mt} (hr : Cla σ 0 m) (hc : Cnt m) (hk : Kin m) (l : Int32) : ∃ τ, dc_X8_ofGivingUp 0 l σ = some τ ∧ FrW 288 σ τ ∧ PA τ nil (wt m l 2) (wt m l 2) := by
  obtain ⟨σ1, a1, a2, a3⟩ := clear_c (σ := σ)
  obtain ⟨σ2, b1, b2, b3⟩ := weigh_c (a2.cla hr) hc hk l 2 (Or.inr (Or.inr rfl)) a3 (fun _ _ => rfl)
  have b1' : dc_X8_weighPrincipals 0 l 1 1 σ1 = some σ2 := b1
  unfold dc_X8_ofGivingUp
  rw [a1, bv_s, b1', bv_s]
  refine wh1_inv (T := fun o => ∃ τ, o = some τ ∧ FrW 288 σ τ ∧ PA τ nil (wt m l 2) (wt m l 2)) (fun i τ => FrW 288 σ τ ∧ PA τ nil (fun n => if n < i then wt m l 2 n else 0) (wt m l 2)) 60 (by decide) (fun i τ hi hP => ?_) (fun τ hP rec => ?_) ⟨⟨fun f hf => (b2.1 f hf).trans (a2.1 f hf), b2.2.trans a2.2⟩, fun n hn => b3 n hn⟩
  · obtain ⟨p1, p2⟩ := hP
    refine ⟨up τ 288 1 i (wt m l 2 i), ⟨FrW_up p1, fun n hn => ?_⟩, fun rec => ?_⟩
    · obtain ⟨c1, c2, c3⟩ := p2 n hn
      refine ⟨(up_nj (by decide)).trans c1, ?_, (up_nj (by decide)).trans c3⟩
      show _ = if n < i + 1 then wt m l 2 n else 0
      by_cases e : n = i
      · rw [e, up_eq, if_pos (by omega)]
      · rw [up_nl e, c2]
        show (if n < i then wt m l 2 n else 0) = _
        by_cases e2 : n < i
        · rw [if_pos e2, if_pos (by omega)]
        · rw [if_neg e2, if_neg (by omega)]
    · rw [if_neg (n60 hi), if_pos (inb_nI hi (by decide)), if_pos (inb_nI hi (by decide)), nI_clamp (by omega), (p2 i hi).2.2, nI_1]
  · obtain ⟨p1, p2⟩ := hP
    rw [if_pos y60]
    refine ⟨τ, rfl, p1, fun n hn => ?_⟩
    obtain ⟨c1, c2, c3⟩ := p2 n hn
    exact ⟨c1, c2.trans (if_pos hn), c3⟩
theorem coJ_skip {m : Mt} {gi gp : Gf} {j : Nat} (h1 : gi j = 0) (h2 : gp j = 0) (k : Nat) : coJ m gi gp (j + 1) k = coJ m gi gp j k := by
  revert k
  refine plc (fun k h1 h2 => by rw [coJ_out h1 h2, coJ_out h1 h2]) (fun i hi => ?_) (fun i hi => ?_) (fun i hi => by rw [coJ_l hi, coJ_l hi]) (fun n w hw => ?_)
  · rw [coJ_c hi, coJ_c hi, sG_succ, h1, h2]
    by_cases c : m (144 + 7 * j) = nI i
    · rw [if_pos c, Int32.add_zero, Int32.add_zero]
    · rw [if_neg c]
  · rw [coJ_i hi, coJ_i hi, sG_succ, h1]
    by_cases c : m (144 + 7 * j) = nI i
    · rw [if_pos c, Int32.add_zero]
    · rw [if_neg c]
  · rw [coJ_n hw, coJ_n hw]
    by_cases e : n = j
    · subst e
      rw [if_pos (Nat.lt_succ_self n), if_neg (Nat.lt_irrefl n), h1, h2, Int32.sub_zero, Int32.add_zero]
      by_cases w3 : w = 3
      · rw [if_pos w3]
      · rw [if_neg w3]
        by_cases w5 : w = 5
        · rw [if_pos w5]
        · rw [if_neg w5]
    · by_cases c : n < j
      · rw [if_pos c, if_pos (by omega)]
      · rw [if_neg c, if_neg (by omega)]
theorem CI_skip {m : Mt} {g : Gf} {i j : Nat} (h : g j = 0) : CI m g i (j + 1) = CI m g i j := by
  rw [CI_succ, h]
  by_cases c : m (144 + 7 * j) = nI i
  · rw [if_pos c]; exact Int.add_zero _
  · rw [if_neg c]; exact Int.add_zero _
