/-! THE STORE AND THE LAYOUT: what the class's objects and the law's six arrays hold, and where they lie once all are made -/
abbrev Sto : Type := (Nat → Nat → Nat → Int32) × (Nat → Nat)
def up (σ : Sto) (f j l : Nat) (v : Int32) : Sto := (fun f' j' l' => if f' = f ∧ j' = j ∧ l' = l then v else σ.1 f' j' l', σ.2)
def upH (σ : Sto) (i m : Nat) : Sto := (σ.1, fun i' => if i' = i then m else σ.2 i')
def mb (j : Nat) : Nat := if j < 3 then 1 + 83 * j else 252 + 83 * (j - 3)
def off (κ j l : Nat) : Nat := match κ with
  | 0 => 587 + l
  | 1 => 584
  | 2 => 250
  | 3 => mb j + 5 + l
  | 4 => mb j + 13 + l
  | 5 => mb j
  | 6 => mb j + 23 + l
  | 7 => 597
  | 8 => 598
  | 9 => 0
  | 10 => 0
  | 11 => mb j + 1
  | 12 => mb j + 2
  | 13 => mb j + 3
  | 14 => mb j + 4
  | 15 => 251
  | 16 => 585
  | 17 => 586
  | 18 => 599 + j
  | κ => 602 + (κ - 19)
def cj (κ : Nat) : Nat := match κ with
  | 3 => 7 | 4 => 7 | 5 => 7 | 6 => 7 | 11 => 7 | 12 => 7 | 13 => 7 | 14 => 7 | 18 => 3 | 10 => 0 | _ => 1
def cl (κ : Nat) : Nat := match κ with
  | 0 => 10 | 3 => 8 | 4 => 10 | 6 => 60 | _ => 1
def mtok (j r : Nat) : Nat × Nat × Nat :=
  if r = 0 then (5, j, 0) else if r = 1 then (11, j, 0) else if r = 2 then (12, j, 0) else if r = 3 then (13, j, 0) else if r = 4 then (14, j, 0) else if r < 13 then (3, j, r - 5) else if r < 23 then (4, j, r - 13) else (6, j, r - 23)
def tok (t : Nat) : Nat × Nat × Nat :=
  if t = 0 then (9, 0, 0) else if t < 250 then mtok ((t - 1) / 83) ((t - 1) % 83) else if t = 250 then (2, 0, 0) else if t = 251 then (15, 0, 0) else if t < 584 then mtok ((t - 252) / 83 + 3) ((t - 252) % 83)
  else if t = 584 then (1, 0, 0) else if t = 585 then (16, 0, 0) else if t = 586 then (17, 0, 0) else if t < 597 then (0, 0, t - 587) else if t = 597 then (7, 0, 0) else if t = 598 then (8, 0, 0) else if t < 602 then (18, t - 599, 0) else (t - 602 + 19, 0, 0)
def okt (κ j l : Nat) : Prop := κ < 25 ∧ j < cj κ ∧ l < cl κ
set_option maxRecDepth 100000 in
theorem off_tok : ∀ t, t < 608 → off (tok t).1 (tok t).2.1 (tok t).2.2 = t ∧ (tok t).1 < 25 ∧ (tok t).2.1 < cj (tok t).1 ∧ (tok t).2.2 < cl (tok t).1 := by decide +kernel
set_option maxRecDepth 100000 in
theorem tok_off0 : ∀ κ, κ < 25 → ∀ j, j < cj κ → ∀ l, l < cl κ → tok (off κ j l) = (κ, j, l) ∧ off κ j l < 608 := by decide +kernel
theorem tok_off {κ j l : Nat} (h : okt κ j l) : tok (off κ j l) = (κ, j, l) := (tok_off0 κ h.1 j h.2.1 l h.2.2).1
theorem off_lt {κ j l : Nat} (h : okt κ j l) : off κ j l < 608 := (tok_off0 κ h.1 j h.2.1 l h.2.2).2
/-- the base address, the address of the fees, the classes' numbers and slots, the arrays' classes -/
abbrev Gm : Type := Nat × Nat × va_G × (Nat → ClassId)
abbrev clz : List vw_C := [(RX0, TX0, 4), (RX1, TX1, 4), (RX2, TX2, 2), (RX3, TX3, 3), (RX4, TX4, 11), (RX5, TX5, 10), (RX6, TX6, 7), (RX7, TX7, 6), (RX8, TX8, 3), (RX9, TX9, 8)]
abbrev tysG (G : Gm) : List (ClassId × FieldType) := [(G.2.2.2 0, .int), (G.2.2.2 1, .char), (G.2.2.2 2, .object RX3), (G.2.2.2 3, .object RX4), (G.2.2.2 4, .object RX6), (G.2.2.2 5, .object RX5), (G.2.2.2 6, .object RX0)]
def ad (G : Gm) (κ j l : Nat) : Nat := G.1 + off κ j l
def rf (G : Gm) (κ j l : Nat) : Value := .ref (ad G κ j l)
def ia (G : Gm) (σ : Sto) (f j n : Nat) : va_E := .inl (G.2.2.2 0, n, .inl (σ.1 f j))
def ra (G : Gm) (c n : Nat) (g : Nat → Nat) : va_E := .inl (G.2.2.2 c, n, .inr (.inr (.inr (.inr fun i => some (g i)))))
/-- what the object or array (κ, j, l) holds -/
def cE (G : Gm) (σ : Sto) (κ j l : Nat) : va_E := match κ with
  | 0 => .inr (0, [.int (σ.1 0 j l), .int (σ.1 1 j l), .int (σ.1 2 j l), .int (σ.1 3 j l)])
  | 1 => .inr (1, [rf G 16 0 0, .int (σ.1 17 j l), rf G 17 0 0, .int (σ.1 19 j l)])
  | 2 => .inr (2, [rf G 15 0 0, .int (σ.1 33 j l)])
  | 3 => .inr (3, [.int (σ.1 48 j l), .int (σ.1 49 j l), .int (σ.1 50 j l)])
  | 4 => .inr (4, [.int (σ.1 64 j l), .int (σ.1 65 j l), .int (σ.1 66 j l), .int (σ.1 67 j l), .int (σ.1 68 j l), .int (σ.1 69 j l), .int (σ.1 70 j l), .int (σ.1 71 j l), .int (σ.1 72 j l), .int (σ.1 73 j l), .int (σ.1 74 j l)])
  | 5 => .inr (5, [rf G 11 j 0, rf G 12 j 0, rf G 13 j 0, rf G 14 j 0, .int (σ.1 84 j l), .int (σ.1 85 j l), .int (σ.1 86 j l), .int (σ.1 87 j l), .int (σ.1 88 j l), .int (σ.1 89 j l)])
  | 6 => .inr (6, [.int (σ.1 96 j l), .int (σ.1 97 j l), .int (σ.1 98 j l), .int (σ.1 99 j l), .int (σ.1 100 j l), .int (σ.1 101 j l), .int (σ.1 102 j l)])
  | 7 => .inr (7, [.int (σ.1 112 j l), .int (σ.1 113 j l), .int (σ.1 114 j l), .int (σ.1 115 j l), .int (σ.1 116 j l), .int (σ.1 117 j l)])
  | 8 => .inr (8, [rf G 18 0 0, rf G 18 1 0, rf G 18 2 0])
  | 9 => .inr (9, [rf G 5 0 0, rf G 5 1 0, rf G 5 2 0, .int (σ.1 147 j l), rf G 2 0 0, rf G 1 0 0, rf G 7 0 0, rf G 8 0 0])
  | 10 => .inr (10, [])
  | 11 => ra G 2 8 (fun i => ad G 3 j i)
  | 12 => ra G 3 10 (fun i => ad G 4 j i)
  | 13 => ra G 4 60 (fun i => ad G 6 j i)
  | 14 => ia G σ 224 j 4
  | 15 => ra G 5 4 (fun i => ad G 5 (σ.2 i) 0)
  | 16 => .inl (G.2.2.2 1, 60, .inl (σ.1 256 j))
  | 17 => ra G 6 10 (fun i => ad G 0 0 i)
  | 18 => ia G σ 288 j 60
  | 19 => ia G σ 304 j 9
  | 20 => ia G σ 320 j 9
  | 21 => ia G σ 336 j 44
  | 22 => ia G σ 352 j 60
  | 23 => ia G σ 368 j 10
  | _ => ia G σ 384 j 10
theorem cE_congr {G : Gm} {σ τ : Sto} {κ j l : Nat} (hκ : κ < 25) (h1 : κ < 11 → ∀ k, k < 16 → σ.1 (16 * κ + k) j l = τ.1 (16 * κ + k) j l) (h2 : 11 ≤ κ → σ.1 (16 * κ) j = τ.1 (16 * κ) j) (h3 : κ = 15 → ∀ i, i < 4 → σ.2 i = τ.2 i) (h4 : κ = 15 → ∀ i, 4 ≤ i → σ.2 i = τ.2 i) : cE G σ κ j l = cE G τ κ j l := by
  have g3 : κ = 15 → σ.2 = τ.2 := fun h => funext fun i => by
    rcases Nat.lt_or_ge i 4 with q | q
    · exact h3 h i q
    · exact h4 h i q
  by_cases hk : κ < 11
  · have h1 := h1 hk
    have hh : ∀ f, 16 * κ ≤ f → f < 16 * κ + 16 → σ.1 f j l = τ.1 f j l := fun f a b => by
      have := h1 (f - 16 * κ) (by omega)
      rwa [show 16 * κ + (f - 16 * κ) = f by omega] at this
    rcases (show κ = 0 ∨ κ = 1 ∨ κ = 2 ∨ κ = 3 ∨ κ = 4 ∨ κ = 5 ∨ κ = 6 ∨ κ = 7 ∨ κ = 8 ∨ κ = 9 ∨ κ = 10 by omega) with rfl | rfl | rfl | rfl | rfl | rfl | rfl | rfl | rfl | rfl | rfl <;> simp (disch := omega) only [cE, hh]
  · have h2 := h2 (by omega)
    rcases (show κ = 11 ∨ κ = 12 ∨ κ = 13 ∨ κ = 14 ∨ κ = 15 ∨ κ = 16 ∨ κ = 17 ∨ κ = 18 ∨ κ = 19 ∨ κ = 20 ∨ κ = 21 ∨ κ = 22 ∨ κ = 23 ∨ κ = 24 by omega) with rfl | rfl | rfl | rfl | rfl | rfl | rfl | rfl | rfl | rfl | rfl | rfl | rfl | rfl <;> first | rfl | (simp only [cE, g3 rfl]; done) | (simp only [cE, ia]; simp only [Nat.reduceMul] at h2; rw [h2])
/-- all cells, by their places -/
def cT (G : Gm) (σ : Sto) (t : Nat) : va_E := cE G σ (tok t).1 (tok t).2.1 (tok t).2.2
def wl (G : Gm) (σ : Sto) : va_W := (List.range 608).map (fun t => (G.1 + t, cT G σ t))
/-- which cells may be written: from the base on -/
def AG (G : Gm) : Nat → Prop := fun q => G.1 ≤ q
theorem wl_at {G : Gm} {σ : Sto} {t : Nat} (h : t < 608) : (wl G σ)[t]? = some (G.1 + t, cT G σ t) := by
  simp only [wl, List.getElem?_map, List.getElem?_range h, Option.map_some]
theorem wl_lt {G : Gm} {σ : Sto} {t : Nat} {q : Nat × va_E} (h : (wl G σ)[t]? = some q) : t < 608 ∧ q = (G.1 + t, cT G σ t) := by
  have h1 := (List.getElem?_eq_some_iff.mp h).1
  have h2 : t < 608 := by simpa only [wl, List.length_map, List.length_range] using h1
  rw [wl_at h2] at h
  exact ⟨h2, (Option.some.inj h).symm⟩
theorem wl_get {G : Gm} {σ : Sto} {κ j l : Nat} (hk : okt κ j l) : (wl G σ)[off κ j l]? = some (ad G κ j l, cE G σ κ j l) := by
  rw [wl_at (off_lt hk), cT, tok_off hk]
  rfl
theorem wl_D {G : Gm} {σ : Sto} : va_D (AG G) (wl G σ) := by
  refine ⟨fun i j p q hi hj e => ?_, fun k q hk => ?_⟩
  · rw [(wl_lt hi).2, (wl_lt hj).2] at e
    exact Nat.add_left_cancel e
  · rw [(wl_lt hk).2]
    exact Nat.le_add_right _ _
theorem wl_set {G : Gm} {σ τ : Sto} {κ j l : Nat} {e : va_E} (hk : okt κ j l) (he : e = cE G τ κ j l) (h : ∀ t, t < 608 → ¬ tok t = (κ, j, l) → cT G τ t = cT G σ t) : (wl G σ).set (off κ j l) (ad G κ j l, e) = wl G τ := by
  subst he
  refine List.ext_getElem? fun t => ?_
  by_cases ht : t < 608
  · rw [wl_at ht]
    by_cases hn : tok t = (κ, j, l)
    · have e : t = off κ j l := by have := (off_tok t ht).1; rw [hn] at this; exact this.symm
      rw [← e, List.getElem?_set_self (by simpa only [wl, List.length_map, List.length_range] using ht), cT, hn, e]
      rfl
    · have hne : off κ j l ≠ t := fun e => hn (by rw [← e, tok_off hk])
      rw [List.getElem?_set_ne hne, wl_at ht, h t ht hn]
  · have hl : ∀ ρ : Sto, (wl G ρ).length = 608 := fun ρ => by simp only [wl, List.length_map, List.length_range]
    rw [List.getElem?_eq_none (by rw [List.length_set, hl]; omega), List.getElem?_eq_none (by rw [hl]; omega)]
/-- one cell is written: an object's number -/
theorem wl_put {G : Gm} {σ : Sto} {κ j l f : Nat} {v : Int32} {e : va_E} (hk : okt κ j l) (hκ : κ < 11) (hf : 16 * κ ≤ f ∧ f < 16 * κ + 16) (he : e = cE G (up σ f j l v) κ j l) : (wl G σ).set (off κ j l) (ad G κ j l, e) = wl G (up σ f j l v) := by
  refine wl_set hk he fun t ht hn => ?_
  obtain ⟨o1, o2, o3, o4⟩ := off_tok t ht
  refine cE_congr o2 (fun hk2 k hk3 => ?_) (fun hk2 => funext fun i => ?_) (fun _ _ _ => rfl) (fun _ _ _ => rfl)
  · show (if _ then _ else _) = _
    rw [if_neg]
    rintro ⟨a, b, c⟩
    exact hn (by rw [← b, ← c, show κ = (tok t).1 by omega])
  · show (if _ then _ else _) = _
    rw [if_neg]
    rintro ⟨a, b, c⟩
    omega
/-- one cell is written: an array's number -/
theorem wl_puta {G : Gm} {σ : Sto} {κ j f i : Nat} {v : Int32} {e : va_E} (hk : okt κ j 0) (hκ : 11 ≤ κ) (hf : f = 16 * κ) (he : e = cE G (up σ f j i v) κ j 0) : (wl G σ).set (off κ j 0) (ad G κ j 0, e) = wl G (up σ f j i v) := by
  refine wl_set hk he fun t ht hn => ?_
  obtain ⟨o1, o2, o3, o4⟩ := off_tok t ht
  refine cE_congr o2 (fun hk2 k hk3 => ?_) (fun hk2 => funext fun x => ?_) (fun _ _ _ => rfl) (fun _ _ _ => rfl)
  · show (if _ then _ else _) = _
    rw [if_neg]
    rintro ⟨a, b, c⟩
    omega
  · show (if _ then _ else _) = _
    rw [if_neg]
    rintro ⟨a, b, c⟩
    have hκ' : (tok t).1 = κ := by omega
    have hl : (tok t).2.2 < 1 := by
      have : cl (tok t).1 = 1 := by
        rw [hκ']
        rcases (show κ = 11 ∨ κ = 12 ∨ κ = 13 ∨ κ = 14 ∨ κ = 15 ∨ κ = 16 ∨ κ = 17 ∨ κ = 18 ∨ κ = 19 ∨ κ = 20 ∨ κ = 21 ∨ κ = 22 ∨ κ = 23 ∨ κ = 24 by have := hk.1; omega) with rfl | rfl | rfl | rfl | rfl | rfl | rfl | rfl | rfl | rfl | rfl | rfl | rfl | rfl | rfl | rfl <;> rfl
      omega
    have hl0 : (tok t).2.2 = 0 := by omega
    exact hn (by rw [← hκ', ← b, ← hl0])
/-- one cell is written: a place of the row of states -/
theorem wl_putH {G : Gm} {σ : Sto} {i m : Nat} {e : va_E} (he : e = cE G (upH σ i m) 15 0 0) : (wl G σ).set (off 15 0 0) (ad G 15 0 0, e) = wl G (upH σ i m) := by
  refine wl_set (by unfold okt; decide) he fun t ht hn => ?_
  obtain ⟨o1, o2, o3, o4⟩ := off_tok t ht
  have hne15 : (tok t).1 ≠ 15 := by
    intro e
    rw [e] at o3 o4
    have a : (tok t).2.1 < 1 := o3
    have b : (tok t).2.2 < 1 := o4
    exact hn (Prod.ext e (Prod.ext (Nat.lt_one_iff.mp a) (Nat.lt_one_iff.mp b)))
  exact cE_congr o2 (fun _ _ _ => rfl) (fun _ => rfl) (fun z => absurd z hne15) (fun z => absurd z hne15)
/-- the heap holds the store -/
def Rep (G : Gm) (σ : Sto) (H : Heap) : Prop := va_P G.2.2.1 clz (wl G σ) H ∧ ∀ i, σ.2 i < 7
