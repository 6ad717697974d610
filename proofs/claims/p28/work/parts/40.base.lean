/-! THE PURE PART: numbers, loops, views of a store -/
theorem tlt (a b : Int32) : a < b ↔ a.toInt < b.toInt := Int32.lt_iff_toInt_lt
theorem tle (a b : Int32) : a ≤ b ↔ a.toInt ≤ b.toInt := Int32.le_iff_toInt_le
theorem teq (a b : Int32) : a = b ↔ a.toInt = b.toInt := Int32.toInt_inj.symm
theorem tlo (a : Int32) : -2147483648 ≤ a.toInt := Int32.le_toInt a
theorem thi (a : Int32) : a.toInt < 2147483648 := Int32.toInt_lt a
theorem bmod_in {x : Int} (h1 : -2147483648 ≤ x) (h2 : x < 2147483648) : x.bmod (2 ^ 32) = x := by
  have e : ((2 : Nat) ^ 32 : Nat) = 4294967296 := rfl
  unfold Int.bmod
  simp only [e]
  omega
theorem tadd {x y : Int32} (h1 : -2147483648 ≤ x.toInt + y.toInt) (h2 : x.toInt + y.toInt < 2147483648) : (x + y).toInt = x.toInt + y.toInt := by
  rw [Int32.toInt_add]; exact bmod_in h1 h2
theorem tsub {x y : Int32} (h1 : -2147483648 ≤ x.toInt - y.toInt) (h2 : x.toInt - y.toInt < 2147483648) : (x - y).toInt = x.toInt - y.toInt := by
  rw [Int32.toInt_sub]; exact bmod_in h1 h2
theorem tmul {x y : Int32} (h1 : -2147483648 ≤ x.toInt * y.toInt) (h2 : x.toInt * y.toInt < 2147483648) : (x * y).toInt = x.toInt * y.toInt := by
  rw [Int32.toInt_mul]; exact bmod_in h1 h2
theorem tneg {x : Int32} (h1 : -2147483648 < x.toInt) : (-x).toInt = -x.toInt := by
  rw [Int32.toInt_neg]
  have := thi x
  exact bmod_in (by omega) (by omega)
theorem tdiv {x y : Int32} (h1 : 0 ≤ x.toInt) (h2 : 0 < y.toInt) : (x / y).toInt = x.toInt / y.toInt := by
  rw [Int32.toInt_div, Int.tdiv_eq_ediv_of_nonneg h1]
  have h3 : x.toInt / y.toInt ≤ x.toInt := Int.ediv_le_self _ h1
  have h4 : 0 ≤ x.toInt / y.toInt := Int.ediv_nonneg h1 (by omega)
  have := thi x
  exact bmod_in (by omega) (by omega)
theorem tcl (x : Int32) : x.toNatClampNeg = x.toInt.toNat := rfl
theorem nIe {x : Int32} (h : 0 ≤ x.toInt) : x = nI x.toNatClampNeg := by
  apply Int32.toInt_inj.mp
  have h1 := thi x
  rw [nI_toInt (by rw [tcl]; omega), tcl]
  omega
theorem clI {x : Int32} (h : 0 ≤ x.toInt) : (x.toNatClampNeg : Int) = x.toInt := by rw [tcl]; omega
theorem inb_nI {k N : Nat} (hk : k < N) (hN : N < 2 ^ 31) : inb (nI k) N := by
  unfold inb
  rw [nI_toInt (by omega)]
  omega
theorem nI_mul (a b : Nat) : nI a * nI b = nI (a * b) := (Int32.ofNat_mul a b).symm
theorem x34 (l : Nat) : (34 : Int32) + (11 : Int32) * nI l = nI (34 + 11 * l) := by rw [show (11 : Int32) = nI 11 from rfl, show (34 : Int32) = nI 34 from rfl, nI_mul, nI_add]
theorem x144 (l : Nat) : (144 : Int32) + (7 : Int32) * nI l = nI (144 + 7 * l) := by rw [show (7 : Int32) = nI 7 from rfl, show (144 : Int32) = nI 144 from rfl, nI_mul, nI_add]
theorem x10 (l : Nat) : (10 : Int32) + (3 : Int32) * nI l = nI (10 + 3 * l) := by rw [show (3 : Int32) = nI 3 from rfl, show (10 : Int32) = nI 10 from rfl, nI_mul, nI_add]
theorem x6 (l : Nat) : (6 : Int32) + nI l = nI (6 + l) := by rw [show (6 : Int32) = nI 6 from rfl, nI_add]
/-! counted loops that leave the store -/
def itN {A : Type} (g : Nat → A → A) : Nat → Nat → A → A
  | _, 0, x => x
  | i, k + 1, x => itN g (i + 1) k (g i x)
theorem itN_congr {A : Type} {g g' : Nat → A → A} : ∀ {k i : Nat} {x : A}, (∀ j y, i ≤ j → j < i + k → g j y = g' j y) → itN g i k x = itN g' i k x
  | 0, _, _, _ => rfl
  | k + 1, i, x, h => by
    show itN g (i + 1) k (g i x) = itN g' (i + 1) k (g' i x)
    rw [h i x (Nat.le_refl _) (by omega)]
    exact itN_congr fun j y h1 h2 => h j y (by omega) (by omega)
theorem itN_succ {A : Type} (g : Nat → A → A) : ∀ (k i : Nat) (x : A), itN g i (k + 1) x = g (i + k) (itN g i k x)
  | 0, _, _ => rfl
  | k + 1, i, x => by
    show itN g (i + 1) (k + 1) (g i x) = g (i + (k + 1)) (itN g (i + 1) k (g i x))
    rw [itN_succ g k (i + 1) (g i x), show i + 1 + k = i + (k + 1) by omega]
theorem wh2_it {A R : Type} {b : (A → Int32 → Sto → Option R) → A → Int32 → Sto → Option R} {K : A → Option R} {σ : Sto} (g : Nat → A → A) (N : Nat) (hN : N < 100000)
    (hs : ∀ (rec : A → Int32 → Sto → Option R) (i : Nat) (x : A), i < N → b rec x (nI i) σ = rec (g i x) (nI (i + 1)) σ) (he : ∀ (rec : A → Int32 → Sto → Option R) (x : A), b rec x (nI N) σ = K x) (x : A) : wh2 b FU x (0 : Int32) σ = K (itN g 0 N x) := by
  have key : ∀ (k i : Nat) (x : A) (f : Nat), i + k = N → k < f → wh2 b f x (nI i) σ = K (itN g i k x) := by
    intro k
    induction k with
    | zero =>
      intro i x f hi hf
      obtain ⟨f, rfl⟩ : ∃ z, f = z + 1 := ⟨f - 1, by omega⟩
      have : i = N := by omega
      subst this
      exact he _ _
    | succ k ih =>
      intro i x f hi hf
      obtain ⟨f, rfl⟩ : ∃ z, f = z + 1 := ⟨f - 1, by omega⟩
      show b (wh2 b f) x (nI i) σ = _
      rw [hs _ i x (by omega), ih (i + 1) (g i x) f (by omega) (by omega)]
      rfl
  exact key N 0 x FU (by omega) hN
/-- a counted loop over stores: an invariant -/
theorem wh1_inv {R : Type} {b : (Int32 → Sto → Option R) → Int32 → Sto → Option R} {T : Option R → Prop} (P : Nat → Sto → Prop) (N : Nat) (hN : N < 100000)
    (hs : ∀ (i : Nat) (σ : Sto), i < N → P i σ → ∃ τ, P (i + 1) τ ∧ ∀ rec : Int32 → Sto → Option R, b rec (nI i) σ = rec (nI (i + 1)) τ) (he : ∀ (σ : Sto), P N σ → ∀ rec : Int32 → Sto → Option R, T (b rec (nI N) σ)) {σ : Sto} (h0 : P 0 σ) : T (wh1 b FU (0 : Int32) σ) := by
  have key : ∀ (k i : Nat) (σ : Sto) (f : Nat), i + k = N → k < f → P i σ → T (wh1 b f (nI i) σ) := by
    intro k
    induction k with
    | zero =>
      intro i σ f hi hf hP
      obtain ⟨f, rfl⟩ : ∃ z, f = z + 1 := ⟨f - 1, by omega⟩
      have : i = N := by omega
      subst this
      exact he σ hP _
    | succ k ih =>
      intro i σ f hi hf hP
      obtain ⟨f, rfl⟩ : ∃ z, f = z + 1 := ⟨f - 1, by omega⟩
      obtain ⟨τ, h1, h2⟩ := hs i σ (by omega) hP
      show T (b (wh1 b f) (nI i) σ)
      rw [h2]
      exact ih (i + 1) τ f (by omega) (by omega) h1
  exact key N 0 σ FU (by omega) hN h0
theorem wh2_inv {A R : Type} {b : (A → Int32 → Sto → Option R) → A → Int32 → Sto → Option R} {T : Option R → Prop} (P : Nat → A → Sto → Prop) (N : Nat) (hN : N < 100000)
    (hs : ∀ (i : Nat) (x : A) (σ : Sto), i < N → P i x σ → ∃ y τ, P (i + 1) y τ ∧ ∀ rec : A → Int32 → Sto → Option R, b rec x (nI i) σ = rec y (nI (i + 1)) τ) (he : ∀ (x : A) (σ : Sto), P N x σ → ∀ rec : A → Int32 → Sto → Option R, T (b rec x (nI N) σ)) {x : A} {σ : Sto} (h0 : P 0 x σ) : T (wh2 b FU x (0 : Int32) σ) := by
  have key : ∀ (k i : Nat) (x : A) (σ : Sto) (f : Nat), i + k = N → k < f → P i x σ → T (wh2 b f x (nI i) σ) := by
    intro k
    induction k with
    | zero =>
      intro i x σ f hi hf hP
      obtain ⟨f, rfl⟩ : ∃ z, f = z + 1 := ⟨f - 1, by omega⟩
      have : i = N := by omega
      subst this
      exact he x σ hP _
    | succ k ih =>
      intro i x σ f hi hf hP
      obtain ⟨f, rfl⟩ : ∃ z, f = z + 1 := ⟨f - 1, by omega⟩
      obtain ⟨y, τ, h1, h2⟩ := hs i x σ (by omega) hP
      show T (b (wh2 b f) x (nI i) σ)
      rw [h2]
      exact ih (i + 1) y τ f (by omega) (by omega) h1
  exact key N 0 x σ FU (by omega) hN h0
/-! the state of a market as 564 numbers, and where class and reference keep it -/
abbrev Mt : Type := Nat → Int32
abbrev na (m : Mt) : Nat := (m 1).toNatClampNeg
abbrev nb (m : Mt) : Nat := (m 2).toNatClampNeg
abbrev nc (m : Mt) : Nat := (m 3).toNatClampNeg
def Mod (σ : Sto) (m : Mt) : Prop := ∀ k, k < 564 → σ.1 304 0 k = m k
def ClS (σ : Sto) (j : Nat) (m : Mt) : Prop := σ.1 87 j 0 = m 0 ∧ σ.1 84 j 0 = m 1 ∧ σ.1 85 j 0 = m 2 ∧ σ.1 86 j 0 = m 3 ∧ σ.1 88 j 0 = m 4 ∧ σ.1 89 j 0 = m 5 ∧ ∀ s, s < 4 → σ.1 224 j s = m (6 + s)
def ClI (σ : Sto) (j : Nat) (m : Mt) : Prop := ∀ i, i < 8 → σ.1 48 j i = m (10 + 3 * i) ∧ σ.1 49 j i = m (10 + 3 * i + 1) ∧ σ.1 50 j i = m (10 + 3 * i + 2)
def ClL (σ : Sto) (j : Nat) (m : Mt) : Prop := ∀ l, l < 10 → σ.1 65 j l = m (34 + 11 * l) ∧ σ.1 66 j l = m (34 + 11 * l + 1) ∧ σ.1 67 j l = m (34 + 11 * l + 2) ∧ σ.1 64 j l = m (34 + 11 * l + 3) ∧ σ.1 68 j l = m (34 + 11 * l + 4) ∧ σ.1 69 j l = m (34 + 11 * l + 5) ∧ σ.1 70 j l = m (34 + 11 * l + 6) ∧ σ.1 71 j l = m (34 + 11 * l + 7) ∧ σ.1 72 j l = m (34 + 11 * l + 8) ∧ σ.1 73 j l = m (34 + 11 * l + 9) ∧ σ.1 74 j l = m (34 + 11 * l + 10)
def ClN (σ : Sto) (j : Nat) (m : Mt) : Prop := ∀ n, n < 60 → σ.1 96 j n = m (144 + 7 * n) ∧ σ.1 97 j n = m (144 + 7 * n + 1) ∧ σ.1 98 j n = m (144 + 7 * n + 2) ∧ σ.1 99 j n = m (144 + 7 * n + 3) ∧ σ.1 100 j n = m (144 + 7 * n + 4) ∧ σ.1 101 j n = m (144 + 7 * n + 5) ∧ σ.1 102 j n = m (144 + 7 * n + 6)
def Cla (σ : Sto) (j : Nat) (m : Mt) : Prop := ClS σ j m ∧ ClI σ j m ∧ ClL σ j m ∧ ClN σ j m
theorem Mod_up {σ : Sto} {m : Mt} (h : Mod σ m) {k : Nat} {v : Int32} : Mod (up σ 304 0 k v) (upd m k v) := fun i hi => by
  show (if 304 = 304 ∧ 0 = 0 ∧ i = k then v else σ.1 304 0 i) = upd m k v i
  simp only [upd, true_and, h i hi]
theorem up_ne {σ : Sto} {f j l f' j' l' : Nat} {v : Int32} (h : f' ≠ f) : (up σ f j l v).1 f' j' l' = σ.1 f' j' l' := if_neg fun q => h q.1
theorem up_nj {σ : Sto} {f j l f' j' l' : Nat} {v : Int32} (h : j' ≠ j) : (up σ f j l v).1 f' j' l' = σ.1 f' j' l' := if_neg fun q => h q.2.1
theorem up_nl {σ : Sto} {f j l f' j' l' : Nat} {v : Int32} (h : l' ≠ l) : (up σ f j l v).1 f' j' l' = σ.1 f' j' l' := if_neg fun q => h q.2.2
theorem up_eq {σ : Sto} {f j l : Nat} {v : Int32} : (up σ f j l v).1 f j l = v := if_pos ⟨rfl, rfl, rfl⟩
theorem Mod_un {σ : Sto} {m : Mt} (h : Mod σ m) {f j l : Nat} {v : Int32} (hf : f ≠ 304) : Mod (up σ f j l v) m := fun i hi => (up_ne (fun q => hf q.symm)).trans (h i hi)
