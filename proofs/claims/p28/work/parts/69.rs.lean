/-! room for all that is paid out -/
def CI (m : Mt) (g : Gf) (i j : Nat) : Int := si (fun n => if m (144 + 7 * n) = nI i then (g n).toInt else 0) j
theorem CI_succ {m : Mt} {g : Gf} {i j : Nat} : CI m g i (j + 1) = CI m g i j + if m (144 + 7 * j) = nI i then (g j).toInt else 0 := rfl
theorem lgx (x : Int64) : (lg_cmp x 2147483647 ≤ 0) ↔ x.toInt ≤ 2147483647 := by
  rw [lg_cmp_le, Int64.le_iff_toInt_le]
  exact Iff.rfl
theorem wh1_invx {R : Type} {b : (Int32 → Sto → Option R) → Int32 → Sto → Option R} {T : Option R → Prop} (P : Nat → Sto → Prop) (N : Nat) (hN : N < 100000)
    (hs : ∀ (i : Nat) (σ : Sto), i < N → P i σ → (∃ τ, P (i + 1) τ ∧ ∀ rec : Int32 → Sto → Option R, b rec (nI i) σ = rec (nI (i + 1)) τ) ∨ ∀ rec : Int32 → Sto → Option R, T (b rec (nI i) σ)) (he : ∀ (σ : Sto), P N σ → ∀ rec : Int32 → Sto → Option R, T (b rec (nI N) σ)) {σ : Sto} (h0 : P 0 σ) : T (wh1 b FU (0 : Int32) σ) := by
  have key : ∀ (k i : Nat) (σ : Sto) (f : Nat), i + k = N → k < f → P i σ → T (wh1 b f (nI i) σ) := by
    intro k
    induction k with
    | zero =>
      intro i σ f hi hf hP
      obtain ⟨f, rfl⟩ : ∃ z, f = z + 1 := ⟨f - 1, by omega⟩
      have : i = N := by omega
      subst this
      exact he σ hP _
    | succ k ih =>
      intro i σ f hi hf hP
      obtain ⟨f, rfl⟩ : ∃ z, f = z + 1 := ⟨f - 1, by omega⟩
      show T (b (wh1 b f) (nI i) σ)
      rcases hs i σ (by omega) hP with ⟨τ, h1, h2⟩ | h
      · rw [h2]
        exact ih (i + 1) τ f (by omega) (by omega) h1
      · exact h _
  exact key N 0 σ FU (by omega) hN h0
abbrev Fit (m : Mt) (g : Gf) : Prop := ∀ i, i < na m → (m (10 + 3 * i)).toInt + CI m g i (nc m) ≤ 2147483647
theorem CI_b {m : Mt} {g : Gf} {i j : Nat} (hg : ∀ n, n < j → 0 ≤ (g n).toInt ∧ (g n).toInt ≤ 2000000) : 0 ≤ CI m g i j ∧ CI m g i j ≤ j * 2000000 := si_bound (by decide) fun k hk => by
  by_cases c : m (144 + 7 * k) = nI i
  · rw [if_pos c]; exact hg k hk
  · rw [if_neg c]; omega
theorem fits_c {σ : Sto} {m : Mt} {gi gp w : Gf} (hr : Cla σ 0 m) (hc : Cnt m) (hA : PA σ gi gp w) (hg : ∀ n, n < nc m → 0 ≤ (gi n + gp n).toInt ∧ (gi n + gp n).toInt ≤ 2000000) : ∃ r, dc_X8_fits 0 σ = some (r, σ) ∧ ((r = 1 ∧ Fit m (fun n => gi n + gp n)) ∨ (r = 0 ∧ ¬ Fit m (fun n => gi n + gp n))) := by
  obtain ⟨h3, hn⟩ := hc.c
  obtain ⟨h1, ha⟩ := hc.a
  unfold dc_X8_fits
  refine wh1_invx (T := fun o => ∃ r, o = some (r, σ) ∧ ((r = 1 ∧ Fit m (fun n => gi n + gp n)) ∨ (r = 0 ∧ ¬ Fit m (fun n => gi n + gp n)))) (fun i τ => τ = σ ∧ ∀ i', i' < i → (m (10 + 3 * i')).toInt + CI m (fun n => gi n + gp n) i' (nc m) ≤ 2147483647) (na m) (by omega) (fun i τ hi hP => ?_) (fun τ hP rec => ?_) ⟨rfl, fun i' h => absurd h (Nat.not_lt_zero i')⟩
  · obtain ⟨rfl, hP⟩ := hP
    have inner : ∀ rec : Int32 → Sto → Option (Int32 × Sto), wh2 (fun (rec5 : Int64 → Int32 → Sto → Option (Int32 × Sto)) (x7 : Int64) (x8 : Int32) (σ6 : Sto) => (if (σ6.1 86 0 0) ≤ x8 then (if (lg_cmp x7 (2147483647 : Int64)) ≤ 0 then rec (nI i + 1) σ6 else some ((0 : Int32), σ6)) else (if inb x8 60 then (if (σ6.1 96 0 x8.toNatClampNeg) = nI i then (if inb x8 60 then (if inb x8 60 then rec5 (x7 + (((σ6.1 288 0 x8.toNatClampNeg) + (σ6.1 288 1 x8.toNatClampNeg)).toInt64)) (x8 + 1) σ6 else none) else none) else rec5 x7 (x8 + 1) σ6) else none))) FU ((τ.1 48 0 i).toInt64) (0 : Int32) τ = if (m (10 + 3 * i)).toInt + CI m (fun n => gi n + gp n) i (nc m) ≤ 2147483647 then rec (nI (i + 1)) τ else some (0, τ) := fun rec => by
      refine wh2_inv (T := fun o => o = if (m (10 + 3 * i)).toInt + CI m (fun n => gi n + gp n) i (nc m) ≤ 2147483647 then rec (nI (i + 1)) τ else some (0, τ)) (fun j (x : Int64) υ => υ = τ ∧ x.toInt = (m (10 + 3 * i)).toInt + CI m (fun n => gi n + gp n) i j) (nc m) (by omega) (fun j x υ hj hQ => ?_) (fun x υ hQ rec' => ?_) ⟨rfl, ?_⟩
      · obtain ⟨rfl, hQ⟩ := hQ
        obtain ⟨a0, a1, -⟩ := hA j (by omega)
        have q := (hr.2.2.2 j (by omega)).1
        have b := CI_b (m := m) (g := fun n => gi n + gp n) (i := i) (j := j) fun n hn' => hg n (by omega)
        have t1 := tlo (m (10 + 3 * i))
        have t2 := thi (m (10 + 3 * i))
        have g := hg j hj
        have hpre : ¬ υ.1 86 0 0 ≤ nI j := by rw [hr.1.2.2.2.1, h3, nI_leI (by omega) (by omega)]; omega
        by_cases c : m (144 + 7 * j) = nI i
        · refine ⟨x + (gi j + gp j).toInt64, υ, ⟨rfl, ?_⟩, fun rec' => ?_⟩
          · rw [CI_succ, if_pos c, Int64.toInt_add, hQ, Int32.toInt_toInt64]
            have : ((2 : Nat) ^ 64 : Nat) = 18446744073709551616 := rfl
            exact (b64 (by omega) (by omega)).trans (by omega)
          · rw [if_neg hpre, if_pos (inb_nI (show j < 60 by omega) (by decide)), nI_clamp (by omega), q, if_pos c, if_pos (inb_nI (show j < 60 by omega) (by decide)), if_pos (inb_nI (show j < 60 by omega) (by decide)), a0, a1, nI_1]
        · refine ⟨x, υ, ⟨rfl, ?_⟩, fun rec' => ?_⟩
          · rw [CI_succ, if_neg c, hQ, Int.add_zero]
          · rw [if_neg hpre, if_pos (inb_nI (show j < 60 by omega) (by decide)), nI_clamp (by omega), q, if_neg c, nI_1]
      · obtain ⟨rfl, hQ⟩ := hQ
        rw [if_pos (by rw [hr.1.2.2.2.1, h3, nI_leI (by omega) (by omega)]; omega), nI_1]
        by_cases c : (m (10 + 3 * i)).toInt + CI m (fun n => gi n + gp n) i (nc m) ≤ 2147483647
        · rw [if_pos ((lgx x).mpr (by omega)), if_pos c]
        · rw [if_neg (fun z => c (by have := (lgx x).mp z; omega)), if_neg c]
      · rw [Int32.toInt_toInt64, (hr.2.1 i (by omega)).1]
        show _ = _ + (0 : Int)
        omega
    have pre : ∀ rec : Int32 → Sto → Option (Int32 × Sto), (if τ.1 84 0 0 ≤ nI i then some ((1 : Int32), τ) else (if inb (nI i) 8 then (if (m (10 + 3 * i)).toInt + CI m (fun n => gi n + gp n) i (nc m) ≤ 2147483647 then rec (nI (i + 1)) τ else some (0, τ)) else none)) = (if (m (10 + 3 * i)).toInt + CI m (fun n => gi n + gp n) i (nc m) ≤ 2147483647 then rec (nI (i + 1)) τ else some (0, τ)) := fun rec => by
      rw [hr.1.2.1, h1, if_neg (by rw [nI_leI (by omega) (by omega)]; omega), if_pos (inb_nI (show i < 8 by omega) (by decide))]
    by_cases c : (m (10 + 3 * i)).toInt + CI m (fun n => gi n + gp n) i (nc m) ≤ 2147483647
    · refine Or.inl ⟨τ, ⟨rfl, fun i' h => ?_⟩, fun rec => ?_⟩
      · by_cases e : i' = i
        · rw [e]; exact c
        · exact hP i' (by omega)
      · rw [nI_clamp (by omega), inner, pre, if_pos c]
    · refine Or.inr fun rec => ?_
      rw [nI_clamp (by omega), inner, pre, if_neg c]
      exact ⟨0, rfl, Or.inr ⟨rfl, fun z => c (z i hi)⟩⟩
  · obtain ⟨rfl, hP⟩ := hP
    rw [hr.1.2.1, h1, if_pos (by rw [nI_leI (by omega) (by omega)]; omega)]
    exact ⟨1, rfl, Or.inl ⟨rfl, hP⟩⟩
/-! the reference pays out -/
def isCash (k : Nat) : Prop := 10 ≤ k ∧ k < 34 ∧ (k - 10) % 3 = 0
def RS (σ : Sto) (Z : Zt) (E : Mt) (C : Nat → Int) : Prop := ∃ m' o, RMid σ Z m' o ∧ (∀ k, k < 564 → ¬ isCash k → m' k = E k) ∧ ((o = 0 ∧ ∀ i, i < 8 → m' (10 + 3 * i) = E (10 + 3 * i) ∧ (E (10 + 3 * i)).toInt = C i ∧ 0 ≤ C i ∧ C i ≤ 2147483647) ∨ (o = 1 ∧ ∃ i, i < 8 ∧ 2147483647 < C i))
theorem RS.congr {σ : Sto} {Z : Zt} {E E' : Mt} {C C' : Nat → Int} (h : RS σ Z E C) (hE : ∀ k, k < 564 → E k = E' k) (hC : ∀ i, i < 8 → C i = C' i) : RS σ Z E' C' := by
  obtain ⟨m', o, a, b, c⟩ := h
  refine ⟨m', o, a, fun k h1 h2 => (b k h1 h2).trans (hE k h1), c.imp (fun ⟨d, e⟩ => ⟨d, fun i hi => ?_⟩) (fun ⟨d, i, hi, e⟩ => ⟨d, i, hi, by rw [← hC i hi]; exact e⟩)⟩
  rw [← hE _ (by omega), ← hC i hi]
  exact e i hi
theorem RS.read {σ : Sto} {Z : Zt} {E : Mt} {C : Nat → Int} (h : RS σ Z E C) {k : Nat} (hk : k < 564) (hn : ¬ isCash k) : σ.1 304 0 k = E k := by
  obtain ⟨m', o, a, b, c⟩ := h
  exact (a.1 k hk).trans (b k hk hn)
theorem RS.set {σ : Sto} {Z : Zt} {E : Mt} {C : Nat → Int} (h : RS σ Z E C) {k : Nat} {v : Int32} (hn : ¬ isCash k) : RS (up σ 304 0 k v) Z (upd E k v) C := by
  obtain ⟨m', o, a, b, c⟩ := h
  refine ⟨upd m' k v, o, RMid_now a, fun k' h1 h2 => ?_, c.imp (fun ⟨d, e⟩ => ⟨d, fun i hi => ?_⟩) id⟩
  · by_cases e : k' = k
    · rw [e, upd_eq, upd_eq]
    · rw [upd_ne e, upd_ne e]; exact b k' h1 h2
  · have : 10 + 3 * i ≠ k := by
      rintro rfl
      exact hn ⟨by omega, by omega, by omega⟩
    rw [upd_ne this, upd_ne this]
    exact e i hi
theorem RS.pay {σ : Sto} {Z : Zt} {E : Mt} {C : Nat → Int} (h : RS σ Z E C) {i : Nat} (hi : i < 8) {v : Int32} (hv : 0 ≤ v.toInt) : ∃ τ, dc_X10_payOut (nI i) v σ = some τ ∧ RS τ Z (upd E (10 + 3 * i) (E (10 + 3 * i) + v)) (fun i' => if i' = i then C i' + v.toInt else C i') ∧ Fr5 σ τ := by
  obtain ⟨m', o, a, b, ⟨rfl, e⟩ | ⟨rfl, i0, hi0, e⟩⟩ := h
  · obtain ⟨e1, e2, e3, e4⟩ := e i hi
    by_cases hle : C i + v.toInt ≤ 2147483647
    · obtain ⟨τ, t1, t2, t3⟩ := payOut_ok (c := v) a hi (by rw [e1, e2]; exact hle)
      refine ⟨τ, t1, ⟨_, 0, t2, fun k h1 h2 => ?_, Or.inl ⟨rfl, fun i' hi' => ?_⟩⟩, t3⟩
      · have : k ≠ 10 + 3 * i := by
          rintro rfl
          exact h2 ⟨by omega, by omega, by omega⟩
        rw [upd_ne this, upd_ne this]; exact b k h1 h2
      · by_cases ee : i' = i
        · rw [ee, upd_eq, upd_eq, e1]
          refine ⟨rfl, ?_⟩
          show _ = (if i = i then C i + v.toInt else C i) ∧ 0 ≤ (if i = i then C i + v.toInt else C i) ∧ (if i = i then C i + v.toInt else C i) ≤ 2147483647
          rw [if_pos rfl, tadd] <;> omega
        · rw [upd_ne (by omega), upd_ne (by omega)]
          show _ ∧ _ = (if i' = i then C i' + v.toInt else C i') ∧ 0 ≤ (if i' = i then C i' + v.toInt else C i') ∧ (if i' = i then C i' + v.toInt else C i') ≤ 2147483647
          rw [if_neg ee]
          exact e i' hi'
    · obtain ⟨τ, t1, t2, t3⟩ := payOut_no (c := v) a hi (fun z => hle (by have := z.2; rw [e1, e2] at this; exact this))
      refine ⟨τ, t1, ⟨_, 1, t2, fun k h1 h2 => ?_, Or.inr ⟨rfl, i, hi, ?_⟩⟩, t3⟩
      · have : k ≠ 10 + 3 * i := by
          rintro rfl
          exact h2 ⟨by omega, by omega, by omega⟩
        rw [upd_ne this]; exact b k h1 h2
      · show 2147483647 < (if i = i then C i + v.toInt else C i)
        rw [if_pos rfl]; omega
  · obtain ⟨τ, t1, t2, t3⟩ := payOut_no (c := v) a hi (fun z => absurd z.1 (by decide))
    refine ⟨τ, t1, ⟨_, 1, t2, fun k h1 h2 => ?_, Or.inr ⟨rfl, i0, hi0, ?_⟩⟩, t3⟩
    · have : k ≠ 10 + 3 * i := by
        rintro rfl
        exact h2 ⟨by omega, by omega, by omega⟩
      rw [upd_ne this]; exact b k h1 h2
    · show 2147483647 < (if i0 = i then C i0 + v.toInt else C i0)
      by_cases ee : i0 = i
      · rw [if_pos ee]; omega
      · rw [if_neg ee]; exact e
theorem RS.frW {σ τ : Sto} {Z : Zt} {E : Mt} {C : Nat → Int} {a : Nat} (ha : a = 384 ∨ a = 400) (h : FrW a σ τ) (hr : RS σ Z E C) : RS τ Z E C := by
  obtain ⟨m', o, ⟨p, q, r, s⟩, b, c⟩ := hr
  refine ⟨m', o, ⟨fun k hk => ?_, q.congr fun f hf => h.1 f (by omega), fun k hk => ?_, ?_⟩, b, c⟩
  · rw [h.1 304 (by omega)]; exact p k hk
  · rw [h.1 320 (by omega)]; exact r k hk
  · rw [h.1 169 (by omega)]; exact s
theorem FrW.same {σ τ : Sto} {a : Nat} (ha : a = 384 ∨ a = 400) (h : FrW a σ τ) : SameC σ τ := ⟨fun f hf => h.1 f (by
  rcases ha with rfl | rfl <;> (rintro rfl; cases hf)), h.2⟩
theorem nCash {k : Nat} (h : ¬ (10 ≤ k ∧ k < 34)) : ¬ isCash k := fun z => h ⟨z.1, z.2.1⟩
theorem RS.on {σ : Sto} {Z : Zt} {E : Mt} {C : Nat → Int} (h : RS σ Z E C) {l w : Nat} (hl : l < 60) (hw : w < 7) : dc_X10_ofNote (nI l) (nI w) σ = some (E (144 + 7 * l + w), σ) := by
  obtain ⟨m', o, a, b, c⟩ := h
  rw [on_nI a.1 hl hw, b _ (by omega) (nCash (by omega))]
theorem RS.mo {σ : Sto} {Z : Zt} {E : Mt} {C : Nat → Int} (h : RS σ Z E C) {l w : Nat} {v : Int32} (hl : l < 60) (hw : w < 7) : dc_X10_more (nI l) (nI w) v σ = some (up σ 304 0 (144 + 7 * l + w) (E (144 + 7 * l + w) + v)) := by
  obtain ⟨m', o, a, b, c⟩ := h
  rw [mo_nI a.1 hl hw, b _ (by omega) (nCash (by omega))]
theorem wt_cg {m m' : Mt} (h3 : m' 3 = m 3) (h : ∀ n, n < nc m → ∀ w, w < 7 → m' (144 + 7 * n + w) = m (144 + 7 * n + w)) (l s : Int32) : wt m' l s = wt m l s := by
  funext n
  unfold wt nc
  rw [h3]
  by_cases c : n < (m 3).toNatClampNeg
  · rw [h n c 1 (by omega), h n c 2 (by omega), h n c 3 (by omega)]
  · rw [if_neg (fun z => c z.1), if_neg (fun z => c z.1)]
theorem pr_cg {m m' : Mt} (h3 : m' 3 = m 3) (h : ∀ n, n < nc m → ∀ w, w < 7 → m' (144 + 7 * n + w) = m (144 + 7 * n + w)) (l s : Int32) : pr m' l s = pr m l s := by
  unfold pr nc
  rw [h3]
  refine itN_congr fun n x _ hn => ?_
  have hn' : n < nc m := by unfold nc; omega
  rw [h n hn' 1 (by omega), h n hn' 2 (by omega), h n hn' 3 (by omega)]
/-- weighed and shared -/
theorem RS.ws {σ : Sto} {Z : Zt} {E : Mt} {C : Nat → Int} (h : RS σ Z E C) (hc : Cnt E) (hp : Pb E) (l s : Int32) : ∃ τ, dc_X10_weigh l s σ = some (pr E l s, τ) ∧ RS τ Z E C ∧ SameC σ τ ∧ ∀ c : Int32, 0 ≤ c.toInt ∧ c.toInt ≤ 1000000000 → ∃ υ, dc_X10_share c (pr E l s) τ = some υ ∧ RS υ Z E C ∧ SameC τ υ ∧ ∀ n, n < nc E → υ.1 400 0 n = sh c (wt E l s) n := by
  obtain ⟨m', o, a, b, c⟩ := id h
  have hcn := hc.c.2
  have e1 := b 1 (by omega) (nCash (by omega))
  have e2 := b 2 (by omega) (nCash (by omega))
  have e3 := b 3 (by omega) (nCash (by omega))
  have hn : ∀ n, n < nc E → ∀ w, w < 7 → m' (144 + 7 * n + w) = E (144 + 7 * n + w) := fun n hn w hw => b _ (by omega) (nCash (by omega))
  have hc' : Cnt m' := hc.same e1 e2 e3
  have hnc : nc m' = nc E := by unfold nc; rw [e3]
  obtain ⟨τ, t1, t2, t3⟩ := weigh_m a.1 hc' l s
  rw [pr_cg e3 hn] at t1
  rw [wt_cg e3 hn, hnc] at t3
  refine ⟨τ, t1, h.frW (Or.inl rfl) t2, t2.same (Or.inl rfl), fun c hcb => ?_⟩
  obtain ⟨υ, u1, u2, u3⟩ := share_m (t2.mod (by decide) a.1) hc' (wt_ok hp l s) (fun n hn' => wt_out (by omega)) (fun n hn' => t3 n (by omega)) hcb (pr_tot hc hp l s)
  exact ⟨υ, u1, (h.frW (Or.inl rfl) t2).frW (Or.inr rfl) u2, u2.same (Or.inr rfl), fun n hn' => u3 n (by omega)⟩
