/-! coins shared out by weights, in whole numbers -/
theorem si_add {f g : Nat → Int} : ∀ n, si (fun k => f k + g k) n = si f n + si g n
  | 0 => rfl
  | n + 1 => by
    show si (fun k => f k + g k) n + (f n + g n) = si f n + f n + (si g n + g n)
    rw [si_add n]
    omega
theorem si_ext {f : Nat → Int} {a : Nat} : ∀ {b : Nat}, a ≤ b → (∀ n, a ≤ n → n < b → f n = 0) → si f b = si f a
  | 0, h, _ => by rw [show a = 0 by omega]
  | b + 1, h, hz => by
    by_cases e : a = b + 1
    · rw [e]
    · show si f b + f b = si f a
      rw [si_ext (b := b) (by omega) (fun n h1 h2 => hz n h1 (by omega)), hz b (by omega) (by omega), Int.add_zero]
theorem si_le {f g : Nat → Int} : ∀ {n : Nat}, (∀ k, k < n → f k ≤ g k) → si f n ≤ si g n
  | 0, _ => Int.le_refl _
  | n + 1, h => by
    have := si_le (n := n) (f := f) (g := g) fun k hk => h k (by omega)
    have := h n (by omega)
    show si f n + f n ≤ si g n + g n
    omega
theorem si_nn {f : Nat → Int} : ∀ {n : Nat}, (∀ k, k < n → 0 ≤ f k) → 0 ≤ si f n
  | 0, _ => Int.le_refl _
  | n + 1, h => by
    have := si_nn (n := n) (f := f) fun k hk => h k (by omega)
    have := h n (by omega)
    show 0 ≤ si f n + f n
    omega
theorem si_ge {f : Nat → Int} {i : Nat} : ∀ {n : Nat}, (∀ k, k < n → 0 ≤ f k) → i < n → f i ≤ si f n
  | 0, _, h => absurd h (Nat.not_lt_zero i)
  | n + 1, h, hi => by
    have h0 := si_nn (n := n) (f := f) fun k hk => h k (by omega)
    have hn := h n (by omega)
    show f i ≤ si f n + f n
    by_cases e : i = n
    · rw [e]; omega
    · have := si_ge (n := n) (f := f) (i := i) (fun k hk => h k (by omega)) (by omega)
      omega
def pq (c : Int) (w : Nat → Int) (W : Int) (n : Nat) : Int := c * w n / W
def lv (w : Nat → Int) (x : Int) : Nat → Int
  | 0 => x
  | n + 1 => if 0 < lv w x n ∧ ¬ w n = 0 then lv w x n - 1 else lv w x n
def ex (w : Nat → Int) (x : Int) (n : Nat) : Int := if 0 < lv w x n ∧ ¬ w n = 0 then 1 else 0
def cnz (w : Nat → Int) : Nat → Int
  | 0 => 0
  | n + 1 => cnz w n + if w n = 0 then 0 else 1
theorem cnz_b (w : Nat → Int) : ∀ n, 0 ≤ cnz w n ∧ cnz w n ≤ n
  | 0 => by show (0 : Int) ≤ 0 ∧ (0 : Int) ≤ 0; omega
  | n + 1 => by
    have := cnz_b w n
    show 0 ≤ cnz w n + (if w n = 0 then 0 else 1) ∧ cnz w n + (if w n = 0 then 0 else 1) ≤ ((n + 1 : Nat) : Int)
    by_cases c : w n = 0
    · rw [if_pos c]; omega
    · rw [if_neg c]; omega
theorem lv_eq {w : Nat → Int} {x : Int} (hx : 0 ≤ x) : ∀ n, lv w x n = if x ≤ cnz w n then 0 else x - cnz w n
  | 0 => by
    show x = if x ≤ 0 then 0 else x - 0
    by_cases c : x ≤ 0
    · rw [if_pos c]; omega
    · rw [if_neg c]; omega
  | n + 1 => by
    have ih := lv_eq hx n (w := w)
    show (if 0 < lv w x n ∧ ¬ w n = 0 then lv w x n - 1 else lv w x n) = if x ≤ cnz w n + (if w n = 0 then 0 else 1) then 0 else x - (cnz w n + if w n = 0 then 0 else 1)
    rw [ih]
    by_cases c : x ≤ cnz w n
    · rw [if_pos c, if_neg (by omega)]
      by_cases d : w n = 0
      · rw [if_pos d, if_pos (by omega)]
      · rw [if_neg d, if_pos (by omega)]
    · rw [if_neg c]
      by_cases d : w n = 0
      · rw [if_neg (by omega), if_pos d, if_neg (by omega), Int.add_zero]
      · rw [if_pos ⟨by omega, d⟩, if_neg d]
        by_cases e : x ≤ cnz w n + 1
        · rw [if_pos e]; omega
        · rw [if_neg e]; omega
theorem ex_sum {w : Nat → Int} {x : Int} : ∀ n, si (ex w x) n = x - lv w x n
  | 0 => by show (0 : Int) = x - x; omega
  | n + 1 => by
    show si (ex w x) n + ex w x n = x - (if 0 < lv w x n ∧ ¬ w n = 0 then lv w x n - 1 else lv w x n)
    rw [ex_sum n]
    unfold ex
    by_cases c : 0 < lv w x n ∧ ¬ w n = 0
    · rw [if_pos c, if_pos c]; omega
    · rw [if_neg c, if_neg c]; omega
theorem ex_b {w : Nat → Int} {x : Int} (n : Nat) : 0 ≤ ex w x n ∧ ex w x n ≤ 1 ∧ (w n = 0 → ex w x n = 0) := by
  unfold ex
  by_cases c : 0 < lv w x n ∧ ¬ w n = 0
  · rw [if_pos c]; exact ⟨by omega, by omega, fun z => absurd z c.2⟩
  · rw [if_neg c]; exact ⟨by omega, by omega, fun _ => rfl⟩
/-- what remains of the parts -/
theorem rem_eq {c W : Int} {w : Nat → Int} (hW : 0 < W) (hc : 0 ≤ c) (hw : ∀ n, 0 ≤ w n) : ∀ n, ∃ R, c * si w n = W * si (pq c w W) n + R ∧ 0 ≤ R ∧ R ≤ W * cnz w n - cnz w n
  | 0 => ⟨0, by show c * 0 = W * 0 + 0; omega, by omega, by show (0 : Int) ≤ W * 0 - 0; omega⟩
  | n + 1 => by
    obtain ⟨R, h1, h2, h3⟩ := rem_eq hW hc hw n
    have d1 := Int.mul_ediv_add_emod (c * w n) W
    have d2 := Int.emod_nonneg (c * w n) (show W ≠ 0 by omega)
    have d3 := Int.emod_lt_of_pos (c * w n) hW
    refine ⟨R + (c * w n) % W, ?_, by omega, ?_⟩
    · show c * (si w n + w n) = W * (si (pq c w W) n + pq c w W n) + (R + (c * w n) % W)
      rw [Int.mul_add, Int.mul_add, h1]
      unfold pq
      omega
    · show R + (c * w n) % W ≤ W * (cnz w n + if w n = 0 then 0 else 1) - (cnz w n + if w n = 0 then 0 else 1)
      by_cases z : w n = 0
      · rw [if_pos z, z, Int.mul_zero, Int.zero_emod]
        rw [Int.add_zero, Int.add_zero]
        exact h3
      · rw [if_neg z, Int.mul_add, Int.mul_one]
        omega
theorem left_b {c W : Int} {w : Nat → Int} {N : Nat} (hW : 0 < W) (hc : 0 ≤ c) (hw : ∀ n, 0 ≤ w n) (hs : si w N = W) : 0 ≤ c - si (pq c w W) N ∧ c - si (pq c w W) N ≤ cnz w N := by
  obtain ⟨R, h1, h2, h3⟩ := rem_eq hW hc hw N
  rw [hs] at h1
  have e : W * (c - si (pq c w W) N) = R := by
    rw [Int.mul_sub, Int.mul_comm W c, h1]
    omega
  have hb := cnz_b w N
  obtain ⟨x, hx⟩ : ∃ x, x = c - si (pq c w W) N := ⟨_, rfl⟩
  rw [← hx] at e ⊢
  constructor
  · refine Classical.byContradiction fun z => ?_
    have : W * x ≤ W * (-1) := Int.mul_le_mul_of_nonneg_left (by omega) (by omega)
    omega
  · refine Classical.byContradiction fun z => ?_
    have : W * (cnz w N + 1) ≤ W * x := Int.mul_le_mul_of_nonneg_left (by omega) (by omega)
    rw [Int.mul_add, Int.mul_one] at this
    omega
def gq (c : Int) (w : Nat → Int) (W : Int) (N n : Nat) : Int := pq c w W n + ex w (c - si (pq c w W) N) n
theorem pq_b {c W : Int} {w : Nat → Int} {n : Nat} (hW : 0 < W) (hc : 0 ≤ c) (hw : 0 ≤ w n) (hwW : w n ≤ W) : 0 ≤ pq c w W n ∧ pq c w W n ≤ c ∧ (w n = 0 → pq c w W n = 0) := by
  unfold pq
  refine ⟨Int.ediv_nonneg (Int.mul_nonneg hc hw) (by omega), ?_, fun z => by rw [z, Int.mul_zero, Int.zero_ediv]⟩
  have : c * w n ≤ c * W := Int.mul_le_mul_of_nonneg_left hwW hc
  have h2 := Int.ediv_le_ediv hW this
  rw [Int.mul_ediv_cancel _ (by omega)] at h2
  exact h2
theorem gq_b {c W : Int} {w : Nat → Int} {N n : Nat} (hW : 0 < W) (hc : 0 ≤ c) (hw : ∀ n, 0 ≤ w n) (hs : si w N = W) (hn : n < N) : 0 ≤ gq c w W N n ∧ gq c w W N n ≤ c + 1 ∧ (w n = 0 → gq c w W N n = 0) ∧ (c ≤ W → gq c w W N n ≤ w n) := by
  have hwW : w n ≤ W := by rw [← hs]; exact si_ge (fun k _ => hw k) hn
  obtain ⟨p1, p2, p3⟩ := pq_b hW hc (hw n) hwW
  obtain ⟨e1, e2, e3⟩ := ex_b (w := w) (x := c - si (pq c w W) N) n
  unfold gq
  refine ⟨by omega, by omega, fun z => by rw [p3 z, e3 z]; rfl, fun hcW => ?_⟩
  by_cases z : w n = 0
  · rw [p3 z, e3 z, z]; decide
  · by_cases e : c = W
    · have hp : ∀ k, k < N → pq c w W k = w k := fun k _ => by
        unfold pq
        rw [e, Int.mul_comm, Int.mul_ediv_cancel _ (by omega)]
      have hx : c - si (pq c w W) N = 0 := by
        rw [si_congr hp, hs, e]; omega
      have : ex w (c - si (pq c w W) N) n = 0 := by
        unfold ex
        rw [hx, lv_eq (Int.le_refl 0), if_neg]
        intro q
        have hb := cnz_b w n
        rw [if_pos hb.1] at q
        omega
      rw [hp n hn, this]; omega
    · have h4 : c * w n ≤ (W - 1) * w n := Int.mul_le_mul_of_nonneg_right (by omega) (hw n)
      rw [Int.sub_mul, Int.one_mul] at h4
      have h5 : pq c w W n < w n := by
        unfold pq
        refine Int.ediv_lt_of_lt_mul hW ?_
        rw [Int.mul_comm (w n) W]
        have := hw n
        omega
      omega
theorem gq_sum {c W : Int} {w : Nat → Int} {N : Nat} (hW : 0 < W) (hc : 0 ≤ c) (hw : ∀ n, 0 ≤ w n) (hs : si w N = W) : si (gq c w W N) N = c := by
  have h := left_b hW hc hw hs
  have e : si (gq c w W N) N = si (pq c w W) N + si (ex w (c - si (pq c w W) N)) N := si_add N
  rw [e, ex_sum, lv_eq h.1, if_pos h.2]
  omega
/-- the same as 32 bits -/
abbrev Gf : Type := Nat → Int32
def tI (w : Gf) : Nat → Int := fun n => (w n).toInt
def sh (c : Int32) (w : Gf) (n : Nat) : Int32 := if si (tI w) 60 ≤ 0 then 0 else Int32.ofInt (gq c.toInt (tI w) (si (tI w) 60) 60 n)
def Wok (w : Gf) : Prop := ∀ n, 0 ≤ (w n).toInt ∧ (w n).toInt ≤ 99999
theorem Wok.s {w : Gf} (h : Wok w) : 0 ≤ si (tI w) 60 ∧ si (tI w) 60 ≤ 5999940 := by
  have := si_bound (f := tI w) (c := 99999) (by decide) (n := 60) fun k _ => h k
  omega
theorem ofI {x : Int} (h1 : -2147483648 ≤ x) (h2 : x < 2147483648) : (Int32.ofInt x).toInt = x := by
  rw [Int32.toInt_ofInt]
  exact bmod_in h1 h2
theorem sh_b {c : Int32} {w : Gf} {n : Nat} (hw : Wok w) (hc : 0 ≤ c.toInt ∧ c.toInt ≤ 1000000000) (hn : n < 60) : 0 ≤ (sh c w n).toInt ∧ (sh c w n).toInt ≤ c.toInt + 1 ∧ (w n = 0 → sh c w n = 0) ∧ (c.toInt ≤ si (tI w) 60 → (sh c w n).toInt ≤ (w n).toInt) := by
  have z0 : (0 : Int32).toInt = 0 := rfl
  unfold sh
  by_cases d : si (tI w) 60 ≤ 0
  · rw [if_pos d]
    exact ⟨by decide, by rw [z0]; omega, fun _ => rfl, fun _ => by rw [z0]; exact (hw n).1⟩
  · rw [if_neg d]
    obtain ⟨g1, g2, g3, g4⟩ := gq_b (c := c.toInt) (w := tI w) (W := si (tI w) 60) (N := 60) (n := n) (by omega) hc.1 (fun k => (hw k).1) rfl hn
    rw [ofI (by omega) (by omega)]
    refine ⟨g1, g2, fun z => ?_, g4⟩
    rw [g3 (by show (w n).toInt = 0; rw [z]; rfl)]
    rfl
theorem sh_sum {c : Int32} {w : Gf} (hw : Wok w) (hc : 0 ≤ c.toInt ∧ c.toInt ≤ 1000000000) (hcw : c.toInt ≤ si (tI w) 60) : si (tI (sh c w)) 60 = c.toInt := by
  have z0 : (0 : Int32).toInt = 0 := rfl
  by_cases d : si (tI w) 60 ≤ 0
  · rw [si_zero fun k _ => ?_]
    · omega
    · show (sh c w k).toInt = 0
      unfold sh
      rw [if_pos d]
      rfl
  · rw [si_congr (g := gq c.toInt (tI w) (si (tI w) 60) 60) fun k hk => ?_]
    · exact gq_sum (by omega) hc.1 (fun k => (hw k).1) rfl
    · show (sh c w k).toInt = _
      obtain ⟨g1, g2, g3, g4⟩ := gq_b (c := c.toInt) (w := tI w) (W := si (tI w) 60) (N := 60) (n := k) (by omega) hc.1 (fun k => (hw k).1) rfl hk
      unfold sh
      rw [if_neg d, ofI (by omega) (by omega)]
