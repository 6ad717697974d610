/-! THE LAW PASSES MONTHS -/
theorem wh2_cps {A R : Type} {b : (A → Int32 → Sto → Option R) → A → Int32 → Sto → Option R} {T : Option R → Prop} (P : Nat → A → Sto → Prop) (ix : Nat → Int32) (N : Nat) (hN : N < 100000)
    (hs : ∀ (i : Nat) (x : A) (σ : Sto) (rec : A → Int32 → Sto → Option R), i < N → P i x σ → (∀ y τ, P (i + 1) y τ → T (rec y (ix (i + 1)) τ)) → T (b rec x (ix i) σ)) (he : ∀ (x : A) (σ : Sto) (rec : A → Int32 → Sto → Option R), P N x σ → T (b rec x (ix N) σ)) {x : A} {σ : Sto} (h0 : P 0 x σ) : T (wh2 b FU x (ix 0) σ) := by
  have key : ∀ (k i : Nat) (x : A) (σ : Sto) (f : Nat), i + k = N → k < f → P i x σ → T (wh2 b f x (ix i) σ) := by
    intro k
    induction k with
    | zero =>
      intro i x σ f hi hf hP
      obtain ⟨f, rfl⟩ : ∃ z, f = z + 1 := ⟨f - 1, by omega⟩
      have : i = N := by omega
      subst this
      exact he x σ _ hP
    | succ k ih =>
      intro i x σ f hi hf hP
      obtain ⟨f, rfl⟩ : ∃ z, f = z + 1 := ⟨f - 1, by omega⟩
      exact hs i x σ _ (by omega) hP fun y τ h => ih (i + 1) y τ f (by omega) (by omega) h
  exact key N 0 x σ FU (by omega) hN h0
theorem wh1_cp2 {R : Type} {b : (Int32 → Sto → Option R) → Int32 → Sto → Option R} {T : Option R → Prop} (P : Nat → Sto → Prop) (N : Nat) (hN : N < 100000)
    (hs : ∀ (i : Nat) (σ : Sto) (rec : Int32 → Sto → Option R), i < N → P i σ → (∀ τ, P (i + 1) τ → T (rec (nI (i + 1)) τ)) → T (b rec (nI i) σ)) (he : ∀ (σ : Sto) (rec : Int32 → Sto → Option R), P N σ → T (b rec (nI N) σ)) {σ : Sto} (h0 : P 0 σ) : T (wh1 b FU (0 : Int32) σ) := by
  have key : ∀ (k i : Nat) (σ : Sto) (f : Nat), i + k = N → k < f → P i σ → T (wh1 b f (nI i) σ) := by
    intro k
    induction k with
    | zero =>
      intro i σ f hi hf hP
      obtain ⟨f, rfl⟩ : ∃ z, f = z + 1 := ⟨f - 1, by omega⟩
      have : i = N := by omega
      subst this
      exact he σ _ hP
    | succ k ih =>
      intro i σ f hi hf hP
      obtain ⟨f, rfl⟩ : ∃ z, f = z + 1 := ⟨f - 1, by omega⟩
      exact hs i σ _ (by omega) hP fun τ h => ih (i + 1) τ f (by omega) (by omega) h
  exact key N 0 σ FU (by omega) hN h0
theorem mons_nb {m : Mt} {j : Nat} : nb (mons m j) = nb m := by unfold nb; rw [mons_low (by omega)]
theorem mons_hi {m : Mt} {k : Nat} (h : 34 + 11 * nb m ≤ k) : ∀ j, mons m j k = m k
  | 0 => rfl
  | j + 1 => by
    show mon (mons m j) k = m k
    unfold mon
    rw [monI_out (by rw [mons_nb]; omega)]
    exact mons_hi h j
theorem mons_in {m : Mt} {l w : Nat} (hl : l < nb m) (hw : w < 11) (j : Nat) : mons m (j + 1) (34 + 11 * l + w) = if mons m j (34 + 11 * l + 3) = 1 then monL (mons m j) (34 + 11 * l) (34 + 11 * l + w) else mons m j (34 + 11 * l + w) := by
  show mon (mons m j) _ = _
  unfold mon
  exact monI_in (by rw [mons_nb]; exact hl) hw
theorem mons_3 {m : Mt} {l : Nat} (hl : l < nb m) : ∀ j, mons m j (34 + 11 * l + 3) = m (34 + 11 * l + 3)
  | 0 => rfl
  | j + 1 => by
    rw [mons_in hl (by omega)]
    by_cases c : mons m j (34 + 11 * l + 3) = 1
    · rw [if_pos c, monL_out (by omega)]; exact mons_3 hl j
    · rw [if_neg c]; exact mons_3 hl j
theorem mons_no {m : Mt} {l w : Nat} (hl : l < nb m) (hw : w < 11) (hr : ¬ m (34 + 11 * l + 3) = 1) : ∀ j, mons m j (34 + 11 * l + w) = m (34 + 11 * l + w)
  | 0 => rfl
  | j + 1 => by
    rw [mons_in hl hw, if_neg (by rw [mons_3 hl]; exact hr)]
    exact mons_no hl hw hr j
/-- loans below l are through n months, loan l through j -/
def pE (m : Mt) (n l j : Nat) : Mt := fun k => if 34 ≤ k ∧ k < 34 + 11 * l then mons m n k else if 34 + 11 * l ≤ k ∧ k < 45 + 11 * l then mons m j k else m k
theorem pE_0 {m : Mt} {n : Nat} : pE m n 0 0 = m := funext fun k => by
  unfold pE
  rw [if_neg (by omega)]
  by_cases c : 34 + 11 * 0 ≤ k ∧ k < 45 + 11 * 0
  · rw [if_pos c]; rfl
  · rw [if_neg c]
theorem pE_out {m : Mt} {n l j k : Nat} (h : ¬ (34 ≤ k ∧ k < 45 + 11 * l)) : pE m n l j k = m k := by
  unfold pE
  rw [if_neg (by omega), if_neg (by omega)]
theorem pE_at {m : Mt} {n l j w : Nat} (hw : w < 11) : pE m n l j (34 + 11 * l + w) = mons m j (34 + 11 * l + w) := by
  unfold pE
  rw [if_neg (by omega), if_pos (by omega)]
theorem pE_lt {m : Mt} {n l j l' w : Nat} (hl : l' < l) (hw : w < 11) : pE m n l j (34 + 11 * l' + w) = mons m n (34 + 11 * l' + w) := by
  unfold pE
  rw [if_pos (by omega)]
theorem pE_end {m : Mt} {n l : Nat} : pE m n l n = pE m n (l + 1) 0 := funext fun k => by
  unfold pE
  by_cases c1 : 34 ≤ k ∧ k < 34 + 11 * l
  · rw [if_pos c1, if_pos (by omega)]
  · rw [if_neg c1]
    by_cases c2 : 34 + 11 * l ≤ k ∧ k < 45 + 11 * l
    · rw [if_pos c2, if_pos (by omega)]
    · rw [if_neg c2, if_neg (by omega)]
      by_cases c3 : 34 + 11 * (l + 1) ≤ k ∧ k < 45 + 11 * (l + 1)
      · rw [if_pos c3]; rfl
      · rw [if_neg c3]
theorem pE_no {m : Mt} {n l j : Nat} (hl : l < nb m) (hr : ¬ m (34 + 11 * l + 3) = 1) : pE m n l j = pE m n (l + 1) 0 := by
  rw [← pE_end]
  funext k
  by_cases c : 34 + 11 * l ≤ k ∧ k < 45 + 11 * l
  · obtain ⟨w, hw, rfl⟩ : ∃ w, w < 11 ∧ k = 34 + 11 * l + w := ⟨k - (34 + 11 * l), by omega, by omega⟩
    rw [pE_at hw, pE_at hw, mons_no hl hw hr, mons_no hl hw hr]
  · unfold pE
    rw [if_neg c, if_neg c]
theorem pE_step {m : Mt} {n l j : Nat} (hl : l < nb m) (hr : m (34 + 11 * l + 3) = 1) : pE m n l (j + 1) = monL (pE m n l j) (34 + 11 * l) := by
  funext k
  by_cases c : 34 + 11 * l ≤ k ∧ k < 45 + 11 * l
  · obtain ⟨w, hw, rfl⟩ : ∃ w, w < 11 ∧ k = 34 + 11 * l + w := ⟨k - (34 + 11 * l), by omega, by omega⟩
    rw [pE_at hw, mons_in hl hw, if_pos (by rw [mons_3 hl]; exact hr)]
    exact (monL_congr (fun w hw => pE_at hw) ⟨by omega, by omega⟩).symm
  · rw [monL_out (by omega)]
    unfold pE
    rw [if_neg c, if_neg c]
theorem mDue_p {m : Mt} {p : Nat} (h : m (p + 7) + m (p + 5) ≤ m (p + 4)) : mDue m p = m (p + 7) + m (p + 5) := by
  unfold mDue jmin
  by_cases c : m (p + 7) + m (p + 5) < m (p + 4)
  · rw [if_pos c]
  · rw [if_neg c, teq]
    rw [tle] at h
    rw [tlt] at c
    omega
theorem mDue_n {m : Mt} {p : Nat} (h : ¬ m (p + 7) + m (p + 5) ≤ m (p + 4)) : mDue m p = m (p + 4) := by
  unfold mDue jmin
  rw [if_neg]
  rw [tlt]
  rw [tle] at h
  omega
theorem Rn_mont {K : Int} {m : Mt} (h : InvM K m) (hb : nb m = 4) (hR : Rn m) : ∀ n : Nat, (m 0).toInt + n ≤ 240 → Rn (mont m n)
  | 0, _ => by rw [mont_0]; exact hR
  | n + 1, hn => fun l hl => by
    have ih := Rn_mont h hb hR n (by omega) l hl
    have hI := InvM_mont h n (by omega)
    have em : ∀ w, w < 11 → mont m (n + 1) (34 + 11 * l + w) = mons m (n + 1) (34 + 11 * l + w) := fun w hw => upd_ne (by omega)
    have en : ∀ w, w < 11 → mont m n (34 + 11 * l + w) = mons m n (34 + 11 * l + w) := fun w hw => upd_ne (by omega)
    have hlb : l < nb m := by omega
    rw [em 3 (by omega), em 4 (by omega), em 6 (by omega), mons_in hlb (by omega), mons_in hlb (by omega), mons_in hlb (by omega)]
    rw [en 3 (by omega), en 4 (by omega), en 6 (by omega)] at ih
    by_cases c : mons m n (34 + 11 * l + 3) = 1
    · rw [if_pos c, if_pos c, if_pos c, monL_out (by omega), monL_out (by omega), monL_6]
      intro q1 ⟨q4, q6⟩
      refine ih q1 ⟨q4, ?_⟩
      unfold mInt at q6
      rw [q4, Int32.zero_mul] at q6
      rw [show (0 : Int32) / 1000 = 0 from rfl, Int32.add_zero] at q6
      exact q6
    · rw [if_neg c, if_neg c, if_neg c]; exact ih
theorem lpass {s : Nat} {σ : Sto} {Z : Zt} (hs : s ≤ 60) (hJ : Jv s σ Z) {n : Nat} (hn1 : 1 ≤ n) (hn24 : n ≤ 24) : Ok (Je s) (dc_L_isPassed (nI n) σ) := by
  obtain ⟨hr, hI, hLr, hL, h1, hb, hR⟩ := id hJ
  obtain ⟨hc, hn, hm1, hm2⟩ := id hL
  have hbn := hL.b
  have z0 : (0 : Int32).toInt = 0 := rfl
  have g0 := hLr _ _ _ rg0
  have ht := hI.1.2.1
  have en : (nI n).toInt = n := nI_toInt (by omega)
  have ea : (Z.1 0 + nI n).toInt = (Z.1 0).toInt + n := by rw [tadd] <;> rw [en] <;> omega
  unfold dc_L_isPassed
  rw [if_pos (of_eq_true i90), cl_0, g0]
  by_cases c : Z.1 0 + nI n ≤ 240
  rotate_left
  · rw [if_neg c]
    rw [tle, ea, show (240 : Int32).toInt = 240 from rfl] at c
    refine ok_q (e_pass4 hI hn1 hn24 c) hr fun τ1 r1 s1 => ?_
    rw [if_pos rfl]
    refine ok_q (e_pass2 hI (a := 25) (by decide)) r1 fun τ2 r2 s2 => ?_
    rw [if_pos rfl]
    exact ok_r (je_q hJ r2 (s1.trans s2))
  rw [if_pos c]
  rw [tle, ea, show (240 : Int32).toInt = 240 from rfl] at c
  refine wh2_cps (T := Ok (Je s)) (fun l x τ => Lr τ (pE Z.1 n l 0) ∧ FrL σ τ ∧ x = itN (fun k x => if ¬ mont Z.1 n (34 + 11 * k + 8) ≤ 0 then x + 1 else x) 0 l 0) (fun l => nI (11 * l)) 4 (by decide) (fun l x τ rec hl hP ih => ?_) (fun x τ rec hP => ?_) ⟨by rw [pE_0]; exact hLr, FrL.refl σ, rfl⟩
  · obtain ⟨p1, p2, p3⟩ := hP
    have hlb : l < nb Z.1 := by omega
    have hLo := hI.1.2.2.2.2.2.1 l hlb
    have g1 : τ.1 304 0 1 = 4 := by rw [p2.2]; exact h1
    rw [if_pos (of_eq_true i91), cl_1, g1, show (11 : Int32) * 4 = nI 44 from rfl, if_neg (by rw [nI_leI (by omega) (by omega)]; omega)]
    -- behind a loan's months
    have X : ∀ υ, Lr υ (pE Z.1 n (l + 1) 0) → FrL σ υ → Ok (Je s) (if inb (nI (11 * l) + (3 : Int32)) 44 then (if (υ.1 336 0 (nI (11 * l) + (3 : Int32)).toNatClampNeg) = (1 : Int32) then (if inb (nI (11 * l) + (8 : Int32)) 44 then (if (υ.1 336 0 (nI (11 * l) + (8 : Int32)).toNatClampNeg) ≤ 0 then rec (x + (0 : Int32)) (nI (11 * l) + 11) υ else rec (x + (1 : Int32)) (nI (11 * l) + 11) υ) else none) else rec (x + (0 : Int32)) (nI (11 * l) + 11) υ) else none) := fun υ q1 q2 => by
      have l3 : υ.1 336 0 (11 * l + 3) = Z.1 (34 + 11 * l + 3) := (q1 _ _ _ (rlw hl (by decide))).trans ((pE_lt (by omega) (by omega)).trans (mons_3 hlb n))
      have l8 : υ.1 336 0 (11 * l + 8) = mons Z.1 n (34 + 11 * l + 8) := (q1 _ _ _ (rlw hl (by decide))).trans (pE_lt (by omega) (by omega))
      have em : mont Z.1 n (34 + 11 * l + 8) = mons Z.1 n (34 + 11 * l + 8) := upd_ne (by omega)
      have ix : nI (11 * l) + 11 = nI (11 * (l + 1)) := xp11 (11 * l)
      rw [xp3, xp8, if_pos (of_eq_true (inT44 (by omega))), clN (by omega), clN (by omega), l3, l8, ix, Int32.add_zero]
      by_cases r : Z.1 (34 + 11 * l + 3) = 1
      · rw [if_pos r, if_pos (of_eq_true (inT44 (by omega)))]
        by_cases d : mons Z.1 n (34 + 11 * l + 8) ≤ 0
        · rw [if_pos d]
          exact ih _ _ ⟨q1, q2, by rw [itN_succ, ← p3, Nat.zero_add, em, if_neg (not_not_intro d)]⟩
        · rw [if_neg d]
          exact ih _ _ ⟨q1, q2, by rw [itN_succ, ← p3, Nat.zero_add, em, if_pos d]⟩
      · rw [if_neg r]
        obtain ⟨k4, k6, k7, k8, k10⟩ := hLo.2.2.2.2.2.2.2.2.2.2.2 r
        exact ih _ _ ⟨q1, q2, by rw [itN_succ, ← p3, Nat.zero_add, em, mons_no hlb (by omega) r, k8, if_neg (not_not_intro (by decide))]⟩
    refine wh1_cp2 (T := Ok (Je s)) (fun j υ => Lr υ (pE Z.1 n l j) ∧ FrL σ υ) n (by omega) (fun j υ rec9 hj hP ih9 => ?_) (fun υ rec9 hP => ?_) ⟨p1, p2⟩
    · obtain ⟨q1, q2⟩ := hP
      refine ok_jn fun k12 hk12 => ?_
      rw [if_neg (by rw [nI_leI (by omega) (by omega)]; omega)]
      have l3 : υ.1 336 0 (11 * l + 3) = Z.1 (34 + 11 * l + 3) := (q1 _ _ _ (rlw hl (by decide))).trans ((pE_at (by omega)).trans (mons_3 hlb j))
      have ee3 : υ.1 336 0 (nI (11 * l) + (3 : Int32)).toNatClampNeg = Z.1 (34 + 11 * l + 3) := by rw [xp3, clN (by omega)]; exact l3
      rw [if_pos (show inb (nI (11 * l) + (3 : Int32)) 44 by rw [xp3]; exact of_eq_true (inT44 (by omega))), ee3]
      by_cases r : Z.1 (34 + 11 * l + 3) = 1
      rotate_left
      · rw [if_neg r, hk12]
        exact X υ (by rw [← pE_no hlb r (j := j)]; exact q1) q2
      rw [if_pos r]
      clear hk12
      have hLm := (InvM_mont hI.1 j (by omega)).2.2.2.2.2.1 l (by
        have : nb (mont Z.1 j) = nb Z.1 := by unfold nb mont; rw [upd_ne (by omega), mons_low (by omega)]
        omega)
      obtain ⟨E, hE⟩ : ∃ E, E = pE Z.1 n l j := ⟨_, rfl⟩
      have eE : ∀ w, w < 11 → mont Z.1 j (34 + 11 * l + w) = E (34 + 11 * l + w) := fun w hw => by
        rw [hE, pE_at hw]
        exact upd_ne (by omega)
      have h10 := hLm.2.2.2.2.2.2.2.2.2.2.1
      rw [eE 10 (by omega)] at h10
      rw [← hE] at q1
      have L1 := q1 _ _ _ (rlw (w := 1) hl (by decide))
      have L4 := q1 _ _ _ (rlw (w := 4) hl (by decide))
      have L5 := q1 _ _ _ (rlw (w := 5) hl (by decide))
      have L6 := q1 _ _ _ (rlw (w := 6) hl (by decide))
      have L7 := q1 _ _ _ (rlw (w := 7) hl (by decide))
      have L8 := q1 _ _ _ (rlw (w := 8) hl (by decide))
      have L9 := q1 _ _ _ (rlw (w := 9) hl (by decide))
      have L10 := q1 _ _ _ (rlw (w := 10) hl (by decide))
      have hI9 := ih9 (up (up (up (up (up υ 336 0 (11 * l + 9) (mSrv E (34 + 11 * l))) 336 0 (11 * l + 10) (-5)) 336 0 (11 * l + 8) (mArr E (34 + 11 * l))) 336 0 (11 * l + 6) (mInt E (34 + 11 * l))) 336 0 (11 * l + 7) (mDue E (34 + 11 * l))) ⟨by
        rw [pE_step hlb r, ← hE]
        unfold monL
        exact ((((q1.pu (rlw hl (by decide))).pu (rlw hl (by decide))).pu (rlw hl (by decide))).pu (rlw hl (by decide))).pu (rlw hl (by decide)), FrL_up (FrL_up (FrL_up (FrL_up (FrL_up q2 (by omega)) (by omega)) (by omega)) (by omega)) (by omega)⟩
      have eI : mInt E (34 + 11 * l) = E (34 + 11 * l + 6) + E (34 + 11 * l + 4) * E (34 + 11 * l + 1) / 1000 := rfl
      have eS : (0 ≤ E (34 + 11 * l + 10) ∧ mSrv E (34 + 11 * l) = E (34 + 11 * l + 10)) ∨ (¬ 0 ≤ E (34 + 11 * l + 10) ∧ mSrv E (34 + 11 * l) = E (34 + 11 * l + 9)) := by
        unfold mSrv
        rcases h10 with q | q
        · exact Or.inr ⟨by rw [q]; decide, if_pos q⟩
        · refine Or.inl ⟨by rw [tle, z0]; exact q.1, if_neg fun z => ?_⟩
          rw [z] at q
          exact absurd q.1 (by decide)
      have eA : (0 < E (34 + 11 * l + 6) ∧ mArr E (34 + 11 * l) = E (34 + 11 * l + 8) + 1) ∨ (¬ 0 < E (34 + 11 * l + 6) ∧ E (34 + 11 * l + 7) ≤ 0 ∧ mArr E (34 + 11 * l) = 0) ∨ (¬ 0 < E (34 + 11 * l + 6) ∧ ¬ E (34 + 11 * l + 7) ≤ 0 ∧ mArr E (34 + 11 * l) = E (34 + 11 * l + 8) + 1) := by
        unfold mArr
        by_cases d1 : 0 < E (34 + 11 * l + 6)
        · exact Or.inl ⟨d1, if_pos d1⟩
        · by_cases d2 : E (34 + 11 * l + 7) ≤ 0
          · exact Or.inr (Or.inl ⟨d1, d2, by rw [if_neg d1, if_pos d2]⟩)
          · exact Or.inr (Or.inr ⟨d1, d2, by rw [if_neg d1, if_neg d2]⟩)
      have eD : (E (34 + 11 * l + 7) + E (34 + 11 * l + 5) ≤ E (34 + 11 * l + 4) ∧ mDue E (34 + 11 * l) = E (34 + 11 * l + 7) + E (34 + 11 * l + 5)) ∨ (¬ E (34 + 11 * l + 7) + E (34 + 11 * l + 5) ≤ E (34 + 11 * l + 4) ∧ mDue E (34 + 11 * l) = E (34 + 11 * l + 4)) := by
        by_cases d : E (34 + 11 * l + 7) + E (34 + 11 * l + 5) ≤ E (34 + 11 * l + 4)
        · exact Or.inl ⟨d, mDue_p d⟩
        · exact Or.inr ⟨d, mDue_n d⟩
      rcases eS with ⟨s1, s2⟩ | ⟨s1, s2⟩ <;> rcases eA with ⟨a1, a2⟩ | ⟨a1, a2, a3⟩ | ⟨a1, a2, a3⟩ <;> rcases eD with ⟨d1, d2⟩ | ⟨d1, d2⟩ <;> first | (rw [s2, a3, eI, d2] at hI9; simp (disch := omega) only [↓jn_eq, ↓reduceIte, ↓lt_eq, xp1, xp3, xp4, xp5, xp6, xp7, xp8, xp9, xp10, inT44, clN, L1, L4, L5, L6, L7, L8, L9, L10, up_eq, up_nl, s1, a1, a2, d1]; exact hI9) | (rw [s2, a2, eI, d2] at hI9; simp (disch := omega) only [↓jn_eq, ↓reduceIte, ↓lt_eq, xp1, xp3, xp4, xp5, xp6, xp7, xp8, xp9, xp10, inT44, clN, L1, L4, L5, L6, L7, L8, L9, L10, up_eq, up_nl, s1, a1, d1]; exact hI9)
    · obtain ⟨q1, q2⟩ := hP
      refine ok_jn fun k12 hk12 => ?_
      rw [if_pos (by rw [nI_leI (by omega) (by omega)]; omega), hk12]
      exact X υ (by rw [← pE_end]; exact q1) q2
  · obtain ⟨p1, p2, p3⟩ := hP
    have g1 : τ.1 304 0 1 = 4 := by rw [p2.2]; exact h1
    have g0' : τ.1 304 0 0 = Z.1 0 := by rw [p2.2]; exact g0
    rw [if_pos (of_eq_true i91), cl_1, g1, if_pos (show (11 : Int32) * 4 ≤ nI (11 * 4) by decide), if_pos (of_eq_true i90), if_pos (of_eq_true i90), g0']
    have hG := e_pass hI hn1 hn24 c
    have nbm : nb (mont Z.1 n) = 4 := by unfold nb mont; rw [upd_ne (by omega), mons_low (by omega)]; exact hbn
    have ex : xinA (mont Z.1 n) = x := by rw [p3]; unfold xinA; rw [nbm]
    rw [ex] at hG
    refine ok_k hG (RCl_up (RCl_L hr p2) (by omega)) fun τ1 r1 s1 => ?_
    rw [if_pos rfl]
    have hGI : InvZ (200000 * s) (pushZ Z (mont Z.1 n)) := hI.push hG.1
    refine ok_q (e_pass2 hGI (a := 0) (by decide)) r1 fun τ2 r2 s2 => ?_
    rw [if_pos rfl]
    have lowm : ∀ j, j < 34 → j ≠ 0 → mont Z.1 n j = Z.1 j := fun j h1 h2 => (upd_ne h2).trans (mons_low h1 n)
    refine ok_r (je_k hI hG.1 (by omega) r2 (s1.trans s2) (p1.pu (v := Z.1 0 + nI n) rg0) (fun k k1 k2 k3 k4 k5 => ?_) ⟨hG.1.1, by unfold nc; rw [lowm 3 (by omega) (by omega)]; exact hn, by rw [lowm 1 (by omega) (by omega)]; exact hm1, by rw [lowm 2 (by omega) (by omega)]; exact hm2⟩ (by rw [up_nl (by decide)]; exact g1) (fun i hi => by rw [lowm _ (by omega) (by omega)]; have := hb i hi; omega) (Rn_mont hI.1 hbn hR n c))
    unfold mont
    by_cases e : k = 0
    · rw [e, upd_eq, upd_eq]
    · rw [upd_ne e, upd_ne e]
      by_cases e2 : k < 34
      · rw [pE_out (by omega), mons_low e2]
      · by_cases e3 : k < 78
        · unfold pE
          rw [if_pos (by omega)]
        · rw [mons_hi (by omega)]
          unfold pE
          rw [if_neg (by omega), if_neg (by omega)]
