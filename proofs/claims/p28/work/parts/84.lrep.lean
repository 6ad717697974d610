/-! THE LAW REPAYS -/
def Ok {A : Type} (Q : A → Prop) (x : Option A) : Prop := ∃ a, x = some a ∧ Q a
section OK
variable {A : Type} {Q : A → Prop}
theorem ok_jn {α : Type} {f : α} {g : α → Option A} (h : ∀ k, k = f → Ok Q (g k)) : Ok Q (jn f g) := h f rfl
theorem ok_lt {x : Sto} {k : Sto → Option A} (h : ∀ s, s = x → Ok Q (k s)) : Ok Q (lt x k) := h x rfl
theorem ok_bd {f : Option (Int32 × Sto)} {k : Int32 → Sto → Option A} {r : Int32} {τ : Sto} (h : f = some (r, τ)) (kk : Ok Q (k r τ)) : Ok Q (bd f k) := by rw [h]; exact kk
theorem ok_bv {f : Option Sto} {k : Sto → Option A} {τ : Sto} (h : f = some τ) (kk : Ok Q (k τ)) : Ok Q (bv f k) := by rw [h]; exact kk
theorem ok_i {p : Prop} [Decidable p] {X Y : Option A} (hp : p) (h : Ok Q X) : Ok Q (if p then X else Y) := by rw [if_pos hp]; exact h
theorem ok_e {p : Prop} [Decidable p] {X Y : Option A} (hp : ¬ p) (h : Ok Q Y) : Ok Q (if p then X else Y) := by rw [if_neg hp]; exact h
theorem ok_r {a : A} (h : Q a) : Ok Q (some a) := ⟨a, rfl, h⟩
theorem ok_mono {P : A → Prop} {x : Option A} (h : Ok P x) (hm : ∀ a, P a → Q a) : Ok Q x := by
  obtain ⟨a, e, p⟩ := h
  exact ⟨a, e, hm a p⟩
end OK
theorem coJ_p {m : Mt} {g : Gf} {j i : Nat} (hi : i < 8) (he : m (144 + 7 * j) = nI i) : coJ m nil g (j + 1) = upd (upd (coJ m nil g j) (10 + 3 * i) (coJ m nil g j (10 + 3 * i) + g j)) (144 + 7 * j + 3) (coJ m nil g j (144 + 7 * j + 3) - g j) := funext fun k => by
  rw [coJ_step hi he]
  simp only [upd, nil, Int32.add_zero, Int32.zero_add]
  by_cases k1 : k = 10 + 3 * i
  · subst k1
    simp (disch := omega) only [if_pos, if_neg, if_true]
  · by_cases k2 : k = 10 + 3 * i + 1
    · subst k2
      simp (disch := omega) only [if_pos, if_neg, if_true]
    · by_cases k3 : k = 144 + 7 * j + 3
      · subst k3
        simp (disch := omega) only [if_pos, if_neg, if_true]
      · by_cases k5 : k = 144 + 7 * j + 5
        · subst k5
          simp (disch := omega) only [if_pos, if_neg, if_true]
        · simp only [k1, k2, k3, k5, if_false]
theorem coJ_i2 {m : Mt} {g : Gf} {j i : Nat} (hi : i < 8) (he : m (144 + 7 * j) = nI i) : coJ m g nil (j + 1) = upd (upd (upd (coJ m g nil j) (10 + 3 * i) (coJ m g nil j (10 + 3 * i) + g j)) (10 + 3 * i + 1) (coJ m g nil j (10 + 3 * i + 1) + g j)) (144 + 7 * j + 5) (coJ m g nil j (144 + 7 * j + 5) + g j) := funext fun k => by
  rw [coJ_step hi he]
  simp only [upd, nil, Int32.add_zero, Int32.sub_zero]
  by_cases k1 : k = 10 + 3 * i
  · subst k1
    simp (disch := omega) only [if_pos, if_neg, if_true]
  · by_cases k2 : k = 10 + 3 * i + 1
    · subst k2
      simp (disch := omega) only [if_pos, if_neg, if_true]
    · by_cases k3 : k = 144 + 7 * j + 3
      · subst k3
        simp (disch := omega) only [if_pos, if_neg, if_true]
      · by_cases k5 : k = 144 + 7 * j + 5
        · subst k5
          simp (disch := omega) only [if_pos, if_neg, if_true]
        · simp only [k1, k2, k3, k5, if_false]
theorem lmn {a b : Int32} : (if b ≤ a then b else a) = mn a b := by
  unfold mn
  by_cases c : b ≤ a
  · rw [if_pos c]
    by_cases d : a ≤ b
    · rw [if_pos d, teq]
      rw [tle] at c d
      omega
    · rw [if_neg d]
  · rw [if_neg c, if_pos]
    rw [tle] at c ⊢
    omega
/-- what a repayment leaves: the class, the law's g -/
def FrL (σ τ : Sto) : Prop := SameC σ τ ∧ τ.1 304 = σ.1 304
theorem FrL.refl (σ : Sto) : FrL σ σ := ⟨SameC.refl σ, rfl⟩
theorem FrL.trans {σ τ υ : Sto} (h : FrL σ τ) (h2 : FrL τ υ) : FrL σ υ := ⟨h.1.trans h2.1, h2.2.trans h.2⟩
theorem FrL_up {σ τ : Sto} {f j l : Nat} {v : Int32} (h : FrL σ τ) (hf : f = 320 ∨ f = 336 ∨ f = 352 ∨ f = 368 ∨ f = 384) : FrL σ (up τ f j l v) := by
  refine ⟨h.1.trans (SameC_up (isC_L (by omega))), (up_f (by omega)).trans h.2⟩
theorem FrL_W {σ τ : Sto} (h : FrW 384 σ τ) : FrL σ τ := ⟨h.same (Or.inl rfl), h.1 304 (by decide)⟩
theorem mn_le {a b : Int32} (ha : 0 ≤ a.toInt) (hb : 0 ≤ b.toInt) : 0 ≤ (mn a b).toInt ∧ (mn a b).toInt ≤ a.toInt ∧ (mn a b).toInt ≤ b.toInt := by
  have := mn_b (a := a) (b := b)
  omega
theorem pr_nn {m : Mt} (hc : Cnt m) (h : Pb m) (l s : Int32) : 0 ≤ (pr m l s).toInt ∧ (pr m l s).toInt ≤ 5999940 := by
  rw [pr_tot hc h]
  exact (wt_ok h l s).s
theorem lrep_eq {σ : Sto} {m : Mt} (h : Lr σ m) (hL : L3 m) (hp : Pb m) (hh : Hd m) (l a s : Int32) (hs : (a < 0 ∧ s = 2) ∨ (¬ a < 0 ∧ a = s ∧ ¬ s = 2)) {c : Int32} (hcb : 0 ≤ c.toInt) : ∃ τ, dc_L_repays l a c σ = some (c - mn (pr m l s) c, τ) ∧ Lr τ (coJ m nil (sh (mn (pr m l s) c) (wt m l s)) (nc m)) ∧ FrL σ τ := by
  obtain ⟨hc, hn, hm1, hm2⟩ := id hL
  obtain ⟨h3, hn'⟩ := hc.c
  have pb := pr_nn hc hp l s
  have mb := mn_le pb.1 hcb
  obtain ⟨σ6, s1, s2, s3⟩ := lshare_eq h hc hn hp l a s hs (c := mn (pr m l s) c) ⟨mb.1, by omega⟩
  obtain ⟨g, hg⟩ : ∃ g, g = sh (mn (pr m l s) c) (wt m l s) := ⟨_, rfl⟩
  rw [← hg] at s3 ⊢
  have key : Ok (fun p : Int32 × Sto => p.1 = c - mn (pr m l s) c ∧ Lr p.2 (coJ m nil g (nc m)) ∧ FrL σ p.2) (dc_L_repays l a c σ) := by
    unfold dc_L_repays
    rw [lpr_eq h hc hn l a s hs, bd_s]
    refine ok_jn fun k hk => ?_
    have e : (if c ≤ pr m l s then k c else k (pr m l s)) = k (mn (pr m l s) c) := by
      rw [← lmn]
      by_cases d : c ≤ pr m l s
      · rw [if_pos d, if_pos d]
      · rw [if_neg d, if_neg d]
    rw [e, hk]
    refine ok_bv s1 ?_
    refine wh1_inv (T := Ok (fun p : Int32 × Sto => p.1 = c - mn (pr m l s) c ∧ Lr p.2 (coJ m nil g (nc m)) ∧ FrL σ p.2)) (fun j τ => Lr τ (coJ m nil g j) ∧ FrL σ τ ∧ τ.1 384 = σ6.1 384) (nc m) (by omega) (fun j τ hj hP => ?_) (fun τ hP rec => ?_) ⟨by rw [coJ_0]; exact h.fr s2, FrL_W s2, rfl⟩
    · obtain ⟨p1, p2, p3⟩ := hP
      obtain ⟨i, hi, he⟩ := isI_of hc (hh j hj)
      rw [hL.a] at hi
      have g2 : τ.1 304 0 2 = nI (nc m) := (p1 _ _ _ rg2).trans (coJ_123.2.2.trans h3)
      have n0 : τ.1 352 0 (6 * j) = nI i := (p1 _ _ _ (rn0 (by omega))).trans (coJ_j0.trans he)
      have n3 := p1 _ _ _ (rn3 (show j < 10 by omega))
      have i0 := p1 _ _ _ (ri0 hi)
      have eg : τ.1 384 0 j = g j := by rw [p3]; exact s3 j hj
      refine ⟨up (up τ 320 0 (3 * i) (coJ m nil g j (10 + 3 * i) + g j)) 352 0 (6 * j + 3) (coJ m nil g j (144 + 7 * j + 3) - g j), ⟨?_, FrL_up (FrL_up p2 (by omega)) (by omega), by rw [up_f (by decide), up_f (by decide)]; exact p3⟩, fun rec => ?_⟩
      · rw [coJ_p (by omega) he]
        have t := (p1.pu (v := coJ m nil g j (10 + 3 * i) + g j) (ri0 hi)).pu (v := coJ m nil g j (144 + 7 * j + 3) - g j) (rn3 (show j < 10 by omega))
        exact t
      · simp (disch := omega) only [lt, i92, if_true, cl_2, g2, xm6, xm3, xp1, xp3, n0, inT60, inT10, inT9, clN, i0, eg, up_ne, n3]
        rw [if_neg (by rw [nI_leI (by omega) (by omega)]; omega)]
    · obtain ⟨p1, p2, p3⟩ := hP
      have g2 : τ.1 304 0 2 = nI (nc m) := (p1 _ _ _ rg2).trans (coJ_123.2.2.trans h3)
      simp (disch := omega) only [i92, if_true, cl_2, g2]
      rw [if_pos (by rw [nI_leI (by omega) (by omega)]; omega)]
      exact ok_r ⟨rfl, p1, p2⟩
  obtain ⟨⟨r, τ⟩, e, k1, k2, k3⟩ := key
  exact ⟨τ, by rw [e, show r = _ from k1], k2, k3⟩
