/-! what is paid out, to whom -/
def sG (m : Mt) (g : Gf) (i j : Nat) : Int32 := itN (fun n x => if m (144 + 7 * n) = nI i then x + g n else x) 0 j 0
theorem sG_succ {m : Mt} {g : Gf} {i j : Nat} : sG m g i (j + 1) = if m (144 + 7 * j) = nI i then sG m g i j + g j else sG m g i j := by
  unfold sG
  rw [itN_succ, Nat.zero_add]
theorem sG_add {m : Mt} {g h : Gf} {i : Nat} : ∀ j, sG m (fun n => g n + h n) i j = sG m g i j + sG m h i j
  | 0 => rfl
  | j + 1 => by
    rw [sG_succ, sG_succ, sG_succ, sG_add j]
    by_cases c : m (144 + 7 * j) = nI i
    · rw [if_pos c, if_pos c, if_pos c, Int32.add_assoc, Int32.add_assoc, ← Int32.add_assoc (sG m h i j), Int32.add_comm (sG m h i j) (g j), Int32.add_assoc (g j)]
    · rw [if_neg c, if_neg c, if_neg c]
theorem sG_congr {m m' : Mt} {g g' : Gf} {i j : Nat} (h : ∀ n, n < j → m (144 + 7 * n) = m' (144 + 7 * n)) (hg : ∀ n, n < j → g n = g' n) : sG m g i j = sG m' g' i j := by
  unfold sG
  refine itN_congr fun n x _ hn => ?_
  rw [h n (by omega), hg n (by omega)]
theorem sG_zero {m : Mt} {i : Nat} : ∀ j, sG m (fun _ => 0) i j = 0
  | 0 => rfl
  | j + 1 => by rw [sG_succ, sG_zero j]; by_cases c : m (144 + 7 * j) = nI i <;> simp only [c, if_true, if_false] <;> rfl
/-- after the first j notes -/
def coJ (m : Mt) (gi gp : Gf) (j : Nat) : Mt := fun k =>
  if 10 ≤ k ∧ k < 34 then (if (k - 10) % 3 = 0 then m k + sG m (fun n => gi n + gp n) ((k - 10) / 3) j else if (k - 10) % 3 = 1 then m k + sG m gi ((k - 10) / 3) j else m k)
  else if 144 ≤ k ∧ (k - 144) / 7 < j then (if (k - 144) % 7 = 3 then m k - gp ((k - 144) / 7) else if (k - 144) % 7 = 5 then m k + gi ((k - 144) / 7) else m k) else m k
theorem coJ_c {m : Mt} {gi gp : Gf} {j i : Nat} (hi : i < 8) : coJ m gi gp j (10 + 3 * i) = m (10 + 3 * i) + sG m (fun n => gi n + gp n) i j := by
  unfold coJ
  rw [if_pos (by omega), if_pos (by omega), show (10 + 3 * i - 10) / 3 = i by omega]
theorem coJ_i {m : Mt} {gi gp : Gf} {j i : Nat} (hi : i < 8) : coJ m gi gp j (10 + 3 * i + 1) = m (10 + 3 * i + 1) + sG m gi i j := by
  unfold coJ
  rw [if_pos (by omega), if_neg (by omega), if_pos (by omega), show (10 + 3 * i + 1 - 10) / 3 = i by omega]
theorem coJ_l {m : Mt} {gi gp : Gf} {j i : Nat} (hi : i < 8) : coJ m gi gp j (10 + 3 * i + 2) = m (10 + 3 * i + 2) := by
  unfold coJ
  rw [if_pos (by omega), if_neg (by omega), if_neg (by omega)]
theorem coJ_out {m : Mt} {gi gp : Gf} {j k : Nat} (h1 : ¬ (10 ≤ k ∧ k < 34)) (h2 : k < 144) : coJ m gi gp j k = m k := by
  unfold coJ
  rw [if_neg h1, if_neg (by omega)]
theorem coJ_n {m : Mt} {gi gp : Gf} {j n w : Nat} (hw : w < 7) : coJ m gi gp j (144 + 7 * n + w) = if n < j then (if w = 3 then m (144 + 7 * n + w) - gp n else if w = 5 then m (144 + 7 * n + w) + gi n else m (144 + 7 * n + w)) else m (144 + 7 * n + w) := by
  unfold coJ
  rw [if_neg (by omega)]
  have e1 : (144 + 7 * n + w - 144) / 7 = n := by omega
  have e2 : (144 + 7 * n + w - 144) % 7 = w := by omega
  rw [e1, e2]
  by_cases c : n < j
  · rw [if_pos ⟨by omega, c⟩, if_pos c]
  · rw [if_neg (fun z => c z.2), if_neg c]
theorem coJ_n3 {m : Mt} {gi gp : Gf} {j n : Nat} (h : n < j) : coJ m gi gp j (144 + 7 * n + 3) = m (144 + 7 * n + 3) - gp n := by rw [coJ_n (by omega), if_pos h, if_pos rfl]
theorem coJ_nx {m : Mt} {gi gp : Gf} {j n w : Nat} (hw : w < 7) (h3 : w ≠ 3) (h5 : w ≠ 5) : coJ m gi gp j (144 + 7 * n + w) = m (144 + 7 * n + w) := by
  rw [coJ_n hw, if_neg h3, if_neg h5]
  by_cases c : n < j
  · rw [if_pos c]
  · rw [if_neg c]
theorem coJ_nj {m : Mt} {gi gp : Gf} {j n w : Nat} (hw : w < 7) (h : j ≤ n) : coJ m gi gp j (144 + 7 * n + w) = m (144 + 7 * n + w) := by rw [coJ_n hw, if_neg (by omega)]
/-- places of a market -/
theorem plc {P : Nat → Prop} (h1 : ∀ k, ¬ (10 ≤ k ∧ k < 34) → k < 144 → P k) (h2 : ∀ i, i < 8 → P (10 + 3 * i)) (h3 : ∀ i, i < 8 → P (10 + 3 * i + 1)) (h4 : ∀ i, i < 8 → P (10 + 3 * i + 2)) (h5 : ∀ n w, w < 7 → P (144 + 7 * n + w)) (k : Nat) : P k := by
  by_cases a : 144 ≤ k
  · have := h5 ((k - 144) / 7) ((k - 144) % 7) (by omega)
    rw [show 144 + 7 * ((k - 144) / 7) + (k - 144) % 7 = k by omega] at this
    exact this
  · by_cases b : 10 ≤ k ∧ k < 34
    · rcases (show (k - 10) % 3 = 0 ∨ (k - 10) % 3 = 1 ∨ (k - 10) % 3 = 2 by omega) with c | c | c
      · have := h2 ((k - 10) / 3) (by omega)
        rw [show 10 + 3 * ((k - 10) / 3) = k by omega] at this
        exact this
      · have := h3 ((k - 10) / 3) (by omega)
        rw [show 10 + 3 * ((k - 10) / 3) + 1 = k by omega] at this
        exact this
      · have := h4 ((k - 10) / 3) (by omega)
        rw [show 10 + 3 * ((k - 10) / 3) + 2 = k by omega] at this
        exact this
    · exact h1 k b (by omega)
theorem coJ_step {m : Mt} {gi gp : Gf} {j i : Nat} (hi : i < 8) (he : m (144 + 7 * j) = nI i) (k : Nat) : coJ m gi gp (j + 1) k = upd (upd (upd (upd (coJ m gi gp j) (144 + 7 * j + 5) (coJ m gi gp j (144 + 7 * j + 5) + gi j)) (144 + 7 * j + 3) (coJ m gi gp j (144 + 7 * j + 3) - gp j)) (10 + 3 * i + 1) (coJ m gi gp j (10 + 3 * i + 1) + gi j)) (10 + 3 * i) (coJ m gi gp j (10 + 3 * i) + (gi j + gp j)) k := by
  revert k
  refine plc (fun k h1 h2 => ?_) (fun i' hi' => ?_) (fun i' hi' => ?_) (fun i' hi' => ?_) (fun n w hw => ?_)
  · rw [upd_ne (by omega), upd_ne (by omega), upd_ne (by omega), upd_ne (by omega), coJ_out h1 h2, coJ_out h1 h2]
  · rw [coJ_c hi', sG_succ]
    by_cases e : i' = i
    · rw [e, upd_eq, if_pos he, coJ_c hi, Int32.add_assoc]
    · rw [upd_ne (by omega), upd_ne (by omega), upd_ne (by omega), upd_ne (by omega), coJ_c hi', if_neg (by rw [he, nI_eq (by omega) (by omega)]; exact fun z => e z.symm)]
  · rw [coJ_i hi', sG_succ]
    by_cases e : i' = i
    · rw [e, upd_ne (by omega), upd_eq, if_pos he, coJ_i hi, Int32.add_assoc]
    · rw [upd_ne (by omega), upd_ne (by omega), upd_ne (by omega), upd_ne (by omega), coJ_i hi', if_neg (by rw [he, nI_eq (by omega) (by omega)]; exact fun z => e z.symm)]
  · rw [coJ_l hi', upd_ne (by omega), upd_ne (by omega), upd_ne (by omega), upd_ne (by omega), coJ_l hi']
  · rw [coJ_n hw, upd_ne (by omega), upd_ne (by omega)]
    by_cases e : n = j
    · subst e
      rw [if_pos (by omega)]
      by_cases w3 : w = 3
      · rw [w3, if_pos rfl, upd_eq, coJ_nj (by omega) (Nat.le_refl n)]
      · rw [if_neg w3]
        by_cases w5 : w = 5
        · rw [w5, if_pos rfl, upd_ne (by omega), upd_eq, coJ_nj (by omega) (Nat.le_refl n)]
        · rw [if_neg w5, upd_ne (by omega), upd_ne (by omega), coJ_nj hw (Nat.le_refl n)]
    · rw [upd_ne (by omega), upd_ne (by omega), coJ_n hw]
      by_cases c : n < j
      · rw [if_pos c, if_pos (by omega)]
      · rw [if_neg c, if_neg (by omega)]
/-- one after the other is both at once -/
theorem coJ_add {m : Mt} {a b a' b' : Gf} {j : Nat} (k : Nat) : coJ (coJ m a b j) a' b' j k = coJ m (fun n => a n + a' n) (fun n => b n + b' n) j k := by
  have hs : ∀ g i, sG (coJ m a b j) g i j = sG m g i j := fun g i => sG_congr (fun n _ => coJ_nx (w := 0) (by omega) (by omega) (by omega)) (fun _ _ => rfl)
  revert k
  refine plc (fun k h1 h2 => ?_) (fun i hi => ?_) (fun i hi => ?_) (fun i hi => ?_) (fun n w hw => ?_)
  · rw [coJ_out h1 h2, coJ_out h1 h2, coJ_out h1 h2]
  · rw [coJ_c hi, coJ_c hi, coJ_c hi, hs, sG_add, sG_add, Int32.add_assoc]
    refine congrArg _ ?_
    have e : sG m (fun n => a n + a' n + (b n + b' n)) i j = sG m (fun n => (a n + b n) + (a' n + b' n)) i j := sG_congr (fun _ _ => rfl) (fun n _ => by
      rw [Int32.add_assoc, Int32.add_assoc, ← Int32.add_assoc (a' n), Int32.add_comm (a' n) (b n), Int32.add_assoc (b n)])
    rw [e, sG_add (g := fun n => a n + b n) (h := fun n => a' n + b' n), sG_add, sG_add]
  · rw [coJ_i hi, coJ_i hi, coJ_i hi, hs, sG_add, Int32.add_assoc]
  · rw [coJ_l hi, coJ_l hi, coJ_l hi]
  · rw [coJ_n hw, coJ_n hw, coJ_n hw]
    by_cases c : n < j
    · rw [if_pos c, if_pos c, if_pos c]
      by_cases w3 : w = 3
      · rw [if_pos w3, if_pos w3, if_pos w3]
        simp only [Int32.sub_eq_add_neg, Int32.neg_add, Int32.add_assoc]
      · rw [if_neg w3, if_neg w3, if_neg w3]
        by_cases w5 : w = 5
        · rw [if_pos w5, if_pos w5, if_pos w5, Int32.add_assoc]
        · rw [if_neg w5, if_neg w5, if_neg w5]
    · rw [if_neg c, if_neg c, if_neg c]
/-- the holders of notes are investors -/
def Hd (m : Mt) : Prop := ∀ n, n < nc m → isI m (m (144 + 7 * n))
theorem InvM.hd {K : Int} {m : Mt} (h : InvM K m) : Hd m := fun n hn => (h.2.2.2.2.2.2.1 n hn).1
theorem coJ_123 {m : Mt} {gi gp : Gf} {j : Nat} : coJ m gi gp j 1 = m 1 ∧ coJ m gi gp j 2 = m 2 ∧ coJ m gi gp j 3 = m 3 := ⟨coJ_out (by omega) (by omega), coJ_out (by omega) (by omega), coJ_out (by omega) (by omega)⟩
theorem coJ_cnt {m : Mt} {gi gp : Gf} {j : Nat} (hc : Cnt m) : Cnt (coJ m gi gp j) := hc.same coJ_123.1 coJ_123.2.1 coJ_123.2.2
theorem carry_c {σ : Sto} {m : Mt} {gi gp w : Gf} (hr : Cla σ 0 m) (hc : Cnt m) (hh : Hd m) (hA : PA σ gi gp w) : ∃ τ, dc_X8_carryOut 0 σ = some τ ∧ FrJ 0 σ τ ∧ Cla τ 0 (coJ m gi gp (nc m)) := by
  obtain ⟨h3, hn⟩ := hc.c
  have ha := hc.a.2
  unfold dc_X8_carryOut
  refine wh1_inv (T := fun o => ∃ τ, o = some τ ∧ FrJ 0 σ τ ∧ Cla τ 0 (coJ m gi gp (nc m))) (fun i τ => FrJ 0 σ τ ∧ Cla τ 0 (coJ m gi gp i)) (nc m) (by omega) (fun j τ hj hP => ?_) (fun τ hP rec => ?_) ⟨FrJ.refl 0 σ, ?_⟩
  · obtain ⟨p1, p2⟩ := hP
    obtain ⟨i, hi, he⟩ := isI_of hc (hh j hj)
    obtain ⟨a0, a1, -⟩ := hA j (by omega)
    have b0 : τ.1 288 0 j = gi j := by rw [p1.1 288 rfl]; exact a0
    have b1 : τ.1 288 1 j = gp j := by rw [p1.1 288 rfl]; exact a1
    have q := p2.2.2.2 j (by omega)
    have c1 := Cla_up101 (v := coJ m gi gp j (144 + 7 * j + 5) + gi j) (n0 := j) (by omega) p2
    have c2 := Cla_up99 (v := coJ m gi gp j (144 + 7 * j + 3) - gp j) (n0 := j) (by omega) c1
    have hj0 : coJ m gi gp j (144 + 7 * j) = nI i := (coJ_nj (w := 0) (by omega) (Nat.le_refl j)).trans he
    have c3 := Cla_up49 (v := coJ m gi gp j (10 + 3 * i + 1) + gi j) (i0 := i) (by omega) c2
    have hcn : Cnt (upd (upd (upd (coJ m gi gp j) (144 + 7 * j + 5) (coJ m gi gp j (144 + 7 * j + 5) + gi j)) (144 + 7 * j + 3) (coJ m gi gp j (144 + 7 * j + 3) - gp j)) (10 + 3 * i + 1) (coJ m gi gp j (10 + 3 * i + 1) + gi j)) := (coJ_cnt hc).same (by rw [upd_ne (by omega), upd_ne (by omega), upd_ne (by omega)]) (by rw [upd_ne (by omega), upd_ne (by omega), upd_ne (by omega)]) (by rw [upd_ne (by omega), upd_ne (by omega), upd_ne (by omega)])
    have hna : i < na (upd (upd (upd (coJ m gi gp j) (144 + 7 * j + 5) (coJ m gi gp j (144 + 7 * j + 5) + gi j)) (144 + 7 * j + 3) (coJ m gi gp j (144 + 7 * j + 3) - gp j)) (10 + 3 * i + 1) (coJ m gi gp j (10 + 3 * i + 1) + gi j)) := by
      unfold na
      rw [upd_ne (by omega), upd_ne (by omega), upd_ne (by omega), coJ_123.1]
      exact hi
    have g := xgive_eq (v := gi j + gp j) c3 hcn hna
    rw [show upd (upd (upd (coJ m gi gp j) (144 + 7 * j + 5) (coJ m gi gp j (144 + 7 * j + 5) + gi j)) (144 + 7 * j + 3) (coJ m gi gp j (144 + 7 * j + 3) - gp j)) (10 + 3 * i + 1) (coJ m gi gp j (10 + 3 * i + 1) + gi j) (10 + 3 * i) = coJ m gi gp j (10 + 3 * i) by rw [upd_ne (by omega), upd_ne (by omega), upd_ne (by omega)]] at g
    have c4 := Cla_up48 (v := coJ m gi gp j (10 + 3 * i) + (gi j + gp j)) (i0 := i) (by omega) c3
    rw [← funext (coJ_step (m := m) (gi := gi) (gp := gp) (j := j) (i := i) (by omega) he)] at c4
    refine ⟨_, ⟨FrJ_up rfl (FrJ_up rfl (FrJ_up rfl (FrJ_up rfl p1))), c4⟩, fun rec => ?_⟩
    have hI2 : isI (upd (upd (coJ m gi gp j) (144 + 7 * j + 5) (coJ m gi gp j (144 + 7 * j + 5) + gi j)) (144 + 7 * j + 3) (coJ m gi gp j (144 + 7 * j + 3) - gp j)) (nI i) := by
      unfold isI
      rw [upd_ne (by omega), upd_ne (by omega), coJ_123.1]
      exact isI_nI hc hi
    rw [p2.1.2.2.2.1, coJ_123.2.2, h3, if_neg (by rw [nI_leI (by omega) (by omega)]; omega), if_pos (inb_nI (show j < 60 by omega) (by decide)), if_pos (inb_nI (show j < 60 by omega) (by decide)), if_pos (inb_nI (show j < 60 by omega) (by decide)), nI_clamp (show j < 2 ^ 31 by omega)]
    simp only [lt]
    simp (disch := decide) only [up_ne]
    rw [q.2.2.2.2.2.1, q.2.2.2.1, b0, b1]
    have q96 : τ.1 96 0 j = nI i := by rw [q.1, hj0]
    have q49 : τ.1 49 0 i = coJ m gi gp j (10 + 3 * i + 1) := (p2.2.1 i (by omega)).2.1
    rw [q96, hasI_eq c2, bd_s, if_pos hI2, if_neg (by decide)]
    simp (disch := decide) only [up_ne]
    rw [q96, if_pos (inb_nI (show i < 8 by omega) (by decide)), if_pos (inb_nI (show j < 60 by omega) (by decide)), if_pos (inb_nI (show j < 60 by omega) (by decide)), if_pos (inb_nI (show j < 60 by omega) (by decide)), nI_clamp (show i < 2 ^ 31 by omega), b0, b1, q49, g, bv_s, nI_1]
  · obtain ⟨p1, p2⟩ := hP
    rw [p2.1.2.2.2.1, coJ_123.2.2, h3, if_pos (by rw [nI_leI (by omega) (by omega)]; omega)]
    exact ⟨τ, rfl, p1, p2⟩
  · have : coJ m gi gp 0 = m := funext (plc (fun k h1 h2 => coJ_out h1 h2) (fun i hi => by rw [coJ_c hi]; exact Int32.add_zero _) (fun i hi => by rw [coJ_i hi]; exact Int32.add_zero _) (fun i hi => coJ_l hi) (fun n w hw => coJ_nj hw (Nat.zero_le n)))
    rw [this]
    exact hr
