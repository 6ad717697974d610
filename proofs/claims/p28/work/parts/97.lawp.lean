/-! THE LAW ANSWERS TRUE -/
theorem wh1_cpi {R : Type} {b : (Int32 → Sto → Option R) → Int32 → Sto → Option R} {T : Option R → Prop} (P : Nat → Sto → Prop) (ix : Nat → Int32) (N : Nat) (hN : N < 100000)
    (hs : ∀ (i : Nat) (σ : Sto) (rec : Int32 → Sto → Option R), i < N → P i σ → (∀ τ, P (i + 1) τ → T (rec (ix (i + 1)) τ)) → T (b rec (ix i) σ)) (he : ∀ (σ : Sto) (rec : Int32 → Sto → Option R), P N σ → T (b rec (ix N) σ)) {σ : Sto} (h0 : P 0 σ) : T (wh1 b FU (ix 0) σ) := by
  have key : ∀ (k i : Nat) (σ : Sto) (f : Nat), i + k = N → k < f → P i σ → T (wh1 b f (ix i) σ) := by
    intro k
    induction k with
    | zero =>
      intro i σ f hi hf hP
      obtain ⟨f, rfl⟩ : ∃ z, f = z + 1 := ⟨f - 1, by omega⟩
      have : i = N := by omega
      subst this
      exact he σ _ hP
    | succ k ih =>
      intro i σ f hi hf hP
      obtain ⟨f, rfl⟩ : ∃ z, f = z + 1 := ⟨f - 1, by omega⟩
      exact hs i σ _ (by omega) hP fun τ h => ih (i + 1) τ f (by omega) (by omega) h
  exact key N 0 σ FU (by omega) hN h0
def sg0 : Sto := (fun f _ l => if f = 89 ∧ l = 0 then 5 else 0, fun s => if s < 4 then 3 + s else 3)
def m00 : Mt := fun k => if k = 5 then 5 else 0
theorem sg_z {f j l : Nat} (h : f ≠ 89) : sg0.1 f j l = 0 := if_neg (by omega)
theorem m00_z {k : Nat} (h : k ≠ 5) : m00 k = 0 := if_neg h
theorem cla0 (j : Nat) : Cla sg0 j m00 := by
  refine ⟨⟨rfl, rfl, rfl, rfl, rfl, rfl, fun s _ => ?_⟩, fun i _ => ?_, fun l _ => ?_, fun n _ => ?_⟩
  · rw [sg_z (by decide), m00_z (by omega)]
  · simp (disch := omega) only [sg_z, m00_z, and_self]
  · simp (disch := omega) only [sg_z, m00_z, and_self]
  · simp (disch := omega) only [sg_z, m00_z, and_self]
theorem inv0 : InvM 0 m00 := by
  have z1 : nc m00 = 0 := by decide
  have z2 : nb m00 = 0 := by decide
  refine ⟨⟨by decide, by decide, by decide⟩, by decide, by decide, by decide, fun i hi => ?_, fun l hl => ?_, fun n hn => ?_, fun l hl => ?_, fun i _ _ => ?_⟩
  · rw [m00_z (by omega)]; decide
  · rw [z2] at hl; exact absurd hl (Nat.not_lt_zero l)
  · rw [z1] at hn; exact absurd hn (Nat.not_lt_zero n)
  · rw [z2] at hl; exact absurd hl (Nat.not_lt_zero l)
  · rw [m00_z (by omega), m00_z (by omega)]; exact ⟨rfl, rfl⟩
def Z00 : Zt := (m00, (0, fun _ => m00), none, (0, fun _ => 0))
theorem rcl0 : RCl sg0 Z00 := by
  refine ⟨cla0 0, ⟨?_, Nat.zero_le _⟩, fun s hs => absurd hs (Nat.not_lt_zero s), fun s hs => ?_, fun s t h1 h2 e => ?_, ?_, fun q hq => (by cases hq), ⟨?_, Nat.zero_le _⟩, fun i hi => absurd hi (Nat.not_lt_zero i)⟩
  · exact sg_z (by decide)
  · show 3 ≤ (if s < 4 then 3 + s else 3) ∧ (if s < 4 then 3 + s else 3) < 7
    rw [if_pos hs]
    omega
  · have e' : (if s < 4 then 3 + s else 3) = (if t < 4 then 3 + t else 3) := e
    rw [if_pos h1, if_pos h2] at e'
    omega
  · exact sg_z (by decide)
  · exact sg_z (by decide)
theorem invz0 : InvZ 0 Z00 := ⟨inv0, fun s hs => absurd hs (Nat.not_lt_zero s), fun q hq => (by cases hq)⟩
theorem lr0 : Lr (up sg0 304 0 4 5) m00 := by
  have h : Lr sg0 (fun _ => 0) := fun f j k hr => sg_z (by have := rl_f hr; omega)
  exact h.pu (v := 5) rg4
theorem Lr.g1 {σ : Sto} {m : Mt} {v : Int32} (h : Lr σ m) : Lr (up σ 304 0 1 v) m := fun f j k hr => by
  have : ¬ (f = 304 ∧ j = 1) := fun z => by
    obtain ⟨rfl, rfl⟩ := z
    unfold rl at hr
    omega
  refine Eq.trans (if_neg ?_) (h f j k hr)
  rintro ⟨a, -, c⟩
  exact this ⟨a, c⟩
/-- k investors are there -/
def JA (k : Nat) (σ : Sto) : Prop := ∃ Z, RCl σ Z ∧ InvZ 0 Z ∧ Lr σ Z.1 ∧ Z.1 1 = nI k ∧ Z.1 2 = 0 ∧ Z.1 3 = 0 ∧ (∀ j, 34 ≤ j → Z.1 j = 0) ∧ ∀ i, i < 3 → (Z.1 (10 + 3 * i)).toInt ≤ 4000
/-- k loans are there -/
def JB (k : Nat) (σ : Sto) : Prop := ∃ Z, RCl σ Z ∧ InvZ 0 Z ∧ Lr σ Z.1 ∧ Z.1 1 = 3 ∧ Z.1 2 = nI k ∧ Z.1 3 = 0 ∧ (∀ j, 34 + 11 * k ≤ j → Z.1 j = 0) ∧ (∀ l, l < k → Z.1 (34 + 11 * l + 3) = 0) ∧ ∀ i, i < 3 → (Z.1 (10 + 3 * i)).toInt ≤ 4000
theorem law_all {L : Nat} {xs : Nat → Int32} : Ok (fun _ : Sto => True) (dc_law L xs sg0) := by
  unfold dc_law
  rw [if_pos (of_eq_true i94), cl_4]
  refine wh1_cp2 (T := Ok (fun _ : Sto => True)) JA 3 (by decide) (fun k σ rec hk hP ih => ?_) (fun σ rec hP => ?_) ⟨Z00, RCl_up rcl0 (by omega), invz0, lr0, rfl, rfl, rfl, fun j hj => m00_z (by omega), fun i hi => by rw [show Z00.1 (10 + 3 * i) = 0 from m00_z (by omega)]; decide⟩
  · obtain ⟨Z, hr, hI, hLr, e1, e2, e3, hz, hb⟩ := hP
    have hna : na Z.1 = k := by unfold na; rw [e1]; exact nI_clamp (by omega)
    rw [if_neg (by rw [show (3 : Int32) = nI 3 from rfl, nI_leI (by omega) (by omega)]; omega), if_pos (by rw [nI_toInt (by omega)]; omega), lowE (n := 4000) (by decide)]
    obtain ⟨y, hy, ey⟩ := lw_nI (v := cel L xs (nI k)) (n := 4000) (N := 4000) rfl (by decide) (by decide)
    have ty : (nI y).toInt = y := nI_toInt (by omega)
    rw [ey, xm3, if_pos (of_eq_true (inT9 (by omega))), if_pos (of_eq_true (inT9 (by omega))), clN (by omega), up_eq]
    have hG := e_addI hI (a := nI y) (by rw [tle, ty]; exact Int.natCast_nonneg y) (by omega)
    refine ok_k hG (RCl_up hr (by omega)) fun τ1 r1 s1 => ?_
    rw [e1, if_pos rfl]
    have I1 : InvZ 0 (pushZ Z (upd (upd Z.1 (10 + 3 * na Z.1) (nI y)) 1 (Z.1 1 + 1))) := hI.push hG.1
    refine ok_q (e_addI2 I1 (a := -1) (by decide)) r1 fun τ2 r2 s2 => ?_
    rw [if_pos rfl, xp1]
    have hE : Lr τ2 (upd Z.1 (10 + 3 * k) (nI y)) := ((hLr.pu (ri0 hk)).same s1).same s2
    rw [hna] at r2 I1
    refine ih τ2 ⟨_, r2, I1, hE.congr fun j h1 h2 h3 h4 h5 => (upd_ne h2).symm, ?_, ?_, ?_, fun j hj => ?_, fun i hi => ?_⟩
    · show upd (upd Z.1 (10 + 3 * k) (nI y)) 1 (Z.1 1 + 1) 1 = _
      rw [upd_eq, e1, xp1]
    · show upd (upd Z.1 (10 + 3 * k) (nI y)) 1 (Z.1 1 + 1) 2 = _
      rw [upd_ne (by omega), upd_ne (by omega)]; exact e2
    · show upd (upd Z.1 (10 + 3 * k) (nI y)) 1 (Z.1 1 + 1) 3 = _
      rw [upd_ne (by omega), upd_ne (by omega)]; exact e3
    · show upd (upd Z.1 (10 + 3 * k) (nI y)) 1 (Z.1 1 + 1) j = _
      rw [upd_ne (by omega), upd_ne (by omega)]; exact hz j hj
    · show (upd (upd Z.1 (10 + 3 * k) (nI y)) 1 (Z.1 1 + 1) (10 + 3 * i)).toInt ≤ _
      rw [upd_ne (by omega)]
      by_cases e : i = k
      · rw [e, upd_eq, ty]; omega
      · rw [upd_ne (by omega)]; exact hb i hi
  obtain ⟨Z, hr, hI, hLr, e1, e2, e3, hz, hb⟩ := hP
  rw [if_pos (by decide)]
  clear rec
  refine wh1_cp2 (T := Ok (fun _ : Sto => True)) JB 4 (by decide) (fun k σ rec hk hP ih => ?_) (fun σ rec hP => ?_) ⟨Z, hr, hI, hLr, e1, e2, e3, fun j hj => hz j (by omega), fun l hl => absurd hl (Nat.not_lt_zero l), hb⟩
  · clear hr hI hLr e1 e2 e3 hz hb
    obtain ⟨Z, hr, hI, hLr, e1, e2, e3, hz, hst, hb⟩ := hP
    have hnb : nb Z.1 = k := by unfold nb; rw [e2]; exact nI_clamp (by omega)
    have t3 : ((3 : Int32) + nI k).toInt = 3 + k := by rw [tadd] <;> rw [nI_toInt (by omega), show (3 : Int32).toInt = 3 from rfl] <;> omega
    rw [if_neg (by rw [show (4 : Int32) = nI 4 from rfl, nI_leI (by omega) (by omega)]; omega), if_pos (by rw [t3]; omega), lowE (n := 900) (by decide)]
    obtain ⟨y, hy, ey⟩ := lw_nI (v := cel L xs ((3 : Int32) + nI k)) (n := 900) (N := 900) rfl (by decide) (by decide)
    obtain ⟨z, hz', ez⟩ := lw_nI (v := cel L xs ((3 : Int32) + nI k) >>> ((11 : Int32) &&& 31)) (n := 51) (N := 51) rfl (by decide) (by decide)
    obtain ⟨w, hw, ew⟩ := lw_nI (v := cel L xs ((3 : Int32) + nI k) >>> ((18 : Int32) &&& 31)) (n := 36) (N := 36) rfl (by decide) (by decide)
    rw [ey, xm11, if_pos (of_eq_true (inT44 (by omega))), lowE (n := 51) (by decide), ez, xp1, if_pos (of_eq_true (inT44 (by omega))), lowE (n := 36) (by decide), ew, xp2, xp5, xp10, if_pos (of_eq_true (inT44 (by omega))), if_pos (of_eq_true (inT44 (by omega))), clN (k := 11 * k) (by omega), clN (k := 11 * k + 1) (by omega), clN (k := 11 * k + 2) (by omega), clN (k := 11 * k + 5) (by omega), clN (k := 11 * k + 10) (by omega)]
    refine ok_lt fun S1 eS => ?_
    rw [if_pos (of_eq_true (inT44 (by omega))), if_pos (of_eq_true (inT44 (by omega))), if_pos (of_eq_true (inT44 (by omega))), if_pos (of_eq_true (inT44 (by omega)))]
    have ta : ((100 : Int32) + nI y).toInt = 100 + y := by rw [tadd] <;> rw [nI_toInt (by omega), show (100 : Int32).toInt = 100 from rfl] <;> omega
    have tt : ((1 : Int32) + nI w).toInt = 1 + w := by rw [tadd] <;> rw [nI_toInt (by omega), show (1 : Int32).toInt = 1 from rfl] <;> omega
    obtain ⟨a, hae⟩ : ∃ a, a = (100 : Int32) + nI y := ⟨_, rfl⟩
    obtain ⟨t, hte⟩ : ∃ t, t = (1 : Int32) + nI w := ⟨_, rfl⟩
    rw [← hae] at eS ta
    rw [← hte] at eS tt
    have v0 : (up S1 336 0 (11 * k + 10) (-5)).1 336 0 (11 * k) = a := by rw [up_nl (by omega), eS, up_nl (by omega), up_nl (by omega), up_nl (by omega), up_eq]
    have v1 : (up S1 336 0 (11 * k + 10) (-5)).1 336 0 (11 * k + 1) = nI z := by rw [up_nl (by omega), eS, up_nl (by omega), up_nl (by omega), up_eq]
    have v2 : (up S1 336 0 (11 * k + 10) (-5)).1 336 0 (11 * k + 2) = t := by rw [up_nl (by omega), eS, up_nl (by omega), up_eq]
    have hE : Lr (up S1 336 0 (11 * k + 10) (-5)) (upd (upd (upd (upd (upd Z.1 (34 + 11 * k) a) (34 + 11 * k + 1) (nI z)) (34 + 11 * k + 2) t) (34 + 11 * k + 5) (-5)) (34 + 11 * k + 10) (-5)) := by
      rw [eS]
      exact ((((hLr.pu (rl0 hk)).pu (rlw hk (by decide))).pu (rlw hk (by decide))).pu (rlw hk (by decide))).pu (rlw hk (by decide))
    have hS : RCl (up S1 336 0 (11 * k + 10) (-5)) Z := by
      rw [eS]
      exact RCl_up (RCl_up (RCl_up (RCl_up (RCl_up hr (by omega)) (by omega)) (by omega)) (by omega)) (by omega)
    rw [v0, v1, v2]
    have tz : (nI z).toInt = z := nI_toInt (by omega)
    have hG := e_open hI (a := a) (r := nI z) (t := t) (by rw [ta, show (100 : Int32).toInt = 100 from rfl, show (99999 : Int32).toInt = 99999 from rfl]; omega) (by rw [tz, show (0 : Int32).toInt = 0 from rfl, show (50 : Int32).toInt = 50 from rfl]; omega) (by rw [tt, show (1 : Int32).toInt = 1 from rfl, show (36 : Int32).toInt = 36 from rfl]; omega) (by omega)
    refine ok_k hG hS fun τ1 r1 s1 => ?_
    rw [e2, if_pos rfl]
    have I1 : InvZ 0 (pushZ Z (opn Z.1 a (nI z) t)) := hI.push hG.1
    refine ok_q (e_open2 I1 (a := 99) (r := 0) (t := 1) (by decide)) r1 fun τ2 r2 s2 => ?_
    rw [if_pos rfl, xp1]
    have ho : ∀ j, ¬ (34 + 11 * k ≤ j ∧ j < 45 + 11 * k) → j ≠ 2 → opn Z.1 a (nI z) t j = Z.1 j := fun j h1 h2 => opn_out (by rw [hnb]; exact h1) h2
    have hp : ∀ j, 34 + 11 * k ≤ j → j < 45 + 11 * k → opn Z.1 a (nI z) t j = upd (upd (upd (upd (upd Z.1 (34 + 11 * k) a) (34 + 11 * k + 1) (nI z)) (34 + 11 * k + 2) t) (34 + 11 * k + 5) (-5)) (34 + 11 * k + 10) (-5) j := fun j h1 h2 => by
      unfold opn
      rw [hnb]
      have hzj := hz j h1
      show (if j = 34 + 11 * k then a else if j = 34 + 11 * k + 1 then nI z else if j = 34 + 11 * k + 2 then t else if j = 34 + 11 * k + 5 ∨ j = 34 + 11 * k + 10 then -5 else if 34 + 11 * k ≤ j ∧ j < 34 + 11 * k + 11 then 0 else if j = 2 then Z.1 2 + 1 else Z.1 j) = _
      simp only [upd]
      by_cases d0 : j = 34 + 11 * k
      · rw [if_pos d0, if_neg (by omega), if_neg (by omega), if_neg (by omega), if_neg (by omega), if_pos d0]
      rw [if_neg d0]
      by_cases d1 : j = 34 + 11 * k + 1
      · rw [if_pos d1, if_neg (by omega), if_neg (by omega), if_neg (by omega), if_pos d1]
      rw [if_neg d1]
      by_cases d2 : j = 34 + 11 * k + 2
      · rw [if_pos d2, if_neg (by omega), if_neg (by omega), if_pos d2]
      rw [if_neg d2]
      by_cases d5 : j = 34 + 11 * k + 5
      · rw [if_pos (Or.inl d5), if_neg (by omega), if_pos d5]
      by_cases d10 : j = 34 + 11 * k + 10
      · rw [if_pos (Or.inr d10), if_pos d10]
      rw [if_neg (by omega), if_pos (by omega), if_neg d10, if_neg d5, if_neg d2, if_neg d1, if_neg d0, hzj]
    refine ih τ2 ⟨_, r2, I1, ((hE.same s1).same s2).congr fun j h1 h2 h3 h4 h5 => ?_, ?_, ?_, ?_, fun j hj => ?_, fun l hl => ?_, fun i hi => ?_⟩
    · show _ = opn Z.1 a (nI z) t j
      by_cases d : 34 + 11 * k ≤ j ∧ j < 45 + 11 * k
      · exact (hp j d.1 d.2).symm
      · rw [ho j d h3, upd_ne (by omega), upd_ne (by omega), upd_ne (by omega), upd_ne (by omega), upd_ne (by omega)]
    · show opn Z.1 a (nI z) t 1 = 3
      rw [ho 1 (by omega) (by omega)]; exact e1
    · show opn Z.1 a (nI z) t 2 = nI (k + 1)
      unfold opn
      rw [hnb]
      show (if 2 = 34 + 11 * k then a else if 2 = 34 + 11 * k + 1 then nI z else if 2 = 34 + 11 * k + 2 then t else if 2 = 34 + 11 * k + 5 ∨ 2 = 34 + 11 * k + 10 then -5 else if 34 + 11 * k ≤ 2 ∧ 2 < 34 + 11 * k + 11 then 0 else if 2 = 2 then Z.1 2 + 1 else Z.1 2) = _
      rw [if_neg (by omega), if_neg (by omega), if_neg (by omega), if_neg (by omega), if_neg (by omega), if_pos rfl, e2, xp1]
    · show opn Z.1 a (nI z) t 3 = 0
      rw [ho 3 (by omega) (by omega)]; exact e3
    · show opn Z.1 a (nI z) t j = 0
      rw [ho j (by omega) (by omega)]; exact hz j (by omega)
    · show opn Z.1 a (nI z) t (34 + 11 * l + 3) = 0
      by_cases e : l = k
      · rw [e, hp _ (by omega) (by omega), upd_ne (by omega), upd_ne (by omega), upd_ne (by omega), upd_ne (by omega), upd_ne (by omega)]
        exact hz _ (by omega)
      · rw [ho _ (by omega) (by omega)]; exact hst l (by omega)
    · show (opn Z.1 a (nI z) t (10 + 3 * i)).toInt ≤ 4000
      rw [ho _ (by omega) (by omega)]; exact hb i hi
  clear hr hI hLr e1 e2 e3 hz hb
  obtain ⟨Z, hr, hI, hLr, e1, e2, e3, hz, hst, hb⟩ := hP
  rw [if_pos (by decide), if_pos (of_eq_true i91), cl_1]
  clear rec
  refine wh1_cpi (T := Ok (fun _ : Sto => True)) (fun s τ => ∃ Z, Jv s τ Z) (fun s => nI (7 + s)) 55 (by decide) (fun s σ rec hs hP ih => ?_) (fun σ rec hP => ?_) ⟨Z, RCl_up hr (by omega), hI, hLr.g1, ⟨hI.1.1, by unfold nc; rw [e3]; decide, e1, e2⟩, up_eq, fun i hi => by have := hb i hi; omega, fun l hl q => by rw [hst l hl] at q; exact absurd q (by decide)⟩
  · obtain ⟨Z, hJ⟩ := hP
    have hs60 : s ≤ 60 := by omega
    rw [if_neg (by rw [show (62 : Int32) = nI 62 from rfl, nI_leI (by omega) (by omega)]; omega), if_pos (by rw [nI_toInt (by omega)]; omega), lowE (n := 11) (by decide)]
    obtain ⟨c, hc⟩ : ∃ c, c = cel L xs (nI (7 + s)) := ⟨_, rfl⟩
    rw [← hc]
    clear hc
    refine ok_jn fun kk hk => ?_
    have N : ∀ τ Z', Jv (s + 1) τ Z' → Ok (fun _ : Sto => True) (kk 1 τ) := fun τ Z' hJ' => by
      obtain ⟨hr', hI', hLr', hL', h1', -, -⟩ := id hJ'
      rw [hk]
      show Ok (fun _ : Sto => True) (if _ then _ else _)
      rw [if_neg (by decide), bdE (lare_eq hI' hr' hLr' hL' h1'), if_neg (by decide), bdE (lnot_eq hI' hr' hLr' hL'), if_neg (by decide), xp1]
      exact ih τ ⟨Z', hJ'⟩
    have K : ∀ f : Option (Int32 × Sto), Ok (Je s) f → Ok (fun _ : Sto => True) (bd f kk) := fun f hf => by
      obtain ⟨⟨r, τ⟩, e, hr1, Z', hJ'⟩ := hf
      rw [e]
      show Ok (fun _ : Sto => True) (kk r τ)
      rw [show r = 1 from hr1]
      exact N τ Z' hJ'
    clear hk N
    by_cases c0 : lw (c >>> ((25 : Int32) &&& 31)) 11 = 0
    · rw [if_pos c0]; exact K _ (lfund hs60 hJ c)
    rw [if_neg c0]
    by_cases c1 : lw (c >>> ((25 : Int32) &&& 31)) 11 = 1
    · rw [if_pos c1]; exact K _ (lfund hs60 hJ c)
    rw [if_neg c1]
    by_cases c2 : lw (c >>> ((25 : Int32) &&& 31)) 11 = 2
    · rw [if_pos c2]; exact K _ (lfund hs60 hJ c)
    rw [if_neg c2]
    by_cases c3 : lw (c >>> ((25 : Int32) &&& 31)) 11 = 3
    · rw [if_pos c3]; exact K _ (lpaid hs60 hJ c)
    rw [if_neg c3]
    by_cases c4 : lw (c >>> ((25 : Int32) &&& 31)) 11 = 4
    · rw [if_pos c4]; exact K _ (lpaid hs60 hJ c)
    rw [if_neg c4]
    by_cases c5 : lw (c >>> ((25 : Int32) &&& 31)) 11 = 5
    · rw [if_pos c5]; exact K _ (lpaid hs60 hJ c)
    rw [if_neg c5]
    by_cases c6 : lw (c >>> ((25 : Int32) &&& 31)) 11 = 6
    · rw [if_pos c6]; exact K _ (lsold hs60 hJ c)
    rw [if_neg c6]
    by_cases c7 : lw (c >>> ((25 : Int32) &&& 31)) 11 = 7
    · rw [if_pos c7]; exact K _ (lmove hs60 hJ c)
    rw [if_neg c7]
    by_cases c8 : lw (c >>> ((25 : Int32) &&& 31)) 11 = 8
    · rw [if_pos c8]; exact K _ (lgive hs60 hJ c)
    rw [if_neg c8, lowE (n := 4) (by decide)]
    by_cases d : lw (c >>> ((6 : Int32) &&& 31)) 4 = 0
    · rw [if_pos d, lowE (n := 24) (by decide)]
      obtain ⟨y, hy, ey⟩ := lw_nI (v := c) (n := 24) (N := 24) rfl (by decide) (by decide)
      rw [ey, show (1 : Int32) + nI y = nI (1 + y) from nI_add 1 y]
      exact K _ (lpass hs60 hJ (by omega) (by omega))
    · rw [if_neg d, lowE (n := 2) (by decide)]
      obtain ⟨y, hy, ey⟩ := lw_nI (v := c) (n := 2) (N := 2) rfl (by decide) (by decide)
      rw [ey, show (1 : Int32) + nI y = nI (1 + y) from nI_add 1 y]
      exact K _ (lpass hs60 hJ (by omega) (by omega))
  · rw [if_pos (by decide)]
    exact ok_r trivial
theorem law_first {L : Nat} {xs : Nat → Int32} : ∃ τ, dc_law L xs sg0 = some τ := by
  obtain ⟨τ, e, -⟩ := law_all (L := L) (xs := xs)
  exact ⟨τ, e⟩
