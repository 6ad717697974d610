/-! THE JUDGEMENT V: a walk over stores; a row an instruction -/
def wsA : List Cond := lw_tbl.filter goodWord
theorem wA {w : Cond} (k : Nat) (h : lw_tbl[k]? = some w) (hg : goodWord w = true) : w ∈ wsA := List.mem_filter.mpr ⟨List.mem_of_getElem? h, hg⟩
theorem wsA_good {w : Cond} (h : w ∈ wsA) : (w.onTables && w.keeps) = true ∨ ∃ ty, w = .arrayClass ty := good_of_word (List.mem_filter.mp h).2
def nsM : List (String × Nat × MethodName × String) := [("PeerNotes", 42, ⟨"PeerNotes$Parts", "<init>", "()V"⟩, "PeerNotes"), ("PeerNotes", 49, ⟨"PeerNotes$Payout", "<init>", "()V"⟩, "PeerNotes"), ("PeerNotes$FundingText", 28, ⟨"PeerNotes$Funding", "<init>", "()V"⟩, "PeerNotes"), ("PeerNotes$Loan", 45, ⟨"PeerNotes", "dividedUp", "(II)I"⟩, "PeerNotes"), ("PeerNotes$Market", 104, ⟨"PeerNotes", "isServicer", "(I)Z"⟩, "PeerNotes"), ("PeerNotes$Market", 55, ⟨"PeerNotes$Investor", "<init>", "()V"⟩, "PeerNotes"), ("PeerNotes$Market", 56, ⟨"PeerNotes$Loan", "<init>", "()V"⟩, "PeerNotes"), ("PeerNotes$Market", 57, ⟨"PeerNotes$Note", "<init>", "()V"⟩, "PeerNotes"), ("PeerNotes$Parts", 25, ⟨"PeerNotes", "feeOf", "(I)I"⟩, "PeerNotes")]
/-- links within the nest -/
def NW (U : State) : Prop := va_Nw (.fieldLinkNest "PeerNotes$Market" 29 "PeerNotes" "FEES" "[I" "PeerNotes") U ∧ ∀ q ∈ nsM, va_Nw (.methodLinkNest q.1 q.2.1 q.2.2.1 q.2.2.2) U
theorem NW.warm {s U : State} (hW : s.WarmedH U.vm) (h : NW s) : NW U := ⟨va_Nw.warmF hW h.1, fun q hq => va_Nw.warmM hW (h.2 q hq)⟩
theorem NW.same {s U : State} (hW : s.vm = U.vm) (h : NW s) : NW U := ⟨va_Nw.same rfl hW h.1, fun q hq => va_Nw.same rfl hW (h.2 q hq)⟩
def feeI : Nat → Int32 := fun k => match k with
  | 0 => 5 | 1 => 10 | 2 => 20 | _ => 40
def feeV : Nat → Value := fun k => .int (feeI k)
def Wt (G : Gm) (U : State) : Prop := va_K G.2.2.1 clz (tysG G) U ∧ NW U
def Wf (G : Gm) (U : State) (H : Heap) : Prop := va_Z "PeerNotes" "FEES" "[I" (.ref G.2.1) (AG G) U H ∧ va_T .int G.2.1 4 feeV (AG G) U H
/-- the world at a state -/
def Wd (G : Gm) (σ : Sto) (U : State) : Prop := Rep G σ U.heap ∧ Wt G U ∧ Wf G U U.heap
theorem Wt.warm {G : Gm} {s U : State} (hW : s.WarmedH U.vm) (h : Wt G s) : Wt G U := ⟨va_K.moved hW.alike h.1, h.2.warm hW⟩
theorem Wf.kept {G : Gm} {U : State} {H H1 : Heap} (h : Wf G U H) (hq : ∀ a : Nat, a < H.size → ¬ AG G a → H1[a]? = H[a]?) : Wf G U H1 := ⟨h.1.kept hq, h.2.kept hq⟩
theorem Wf.alike {G : Gm} {s U : State} {H : Heap} (hW : s.vm.Alike U.vm) (h : Wf G s H) : Wf G U H := ⟨h.1.moved hW, h.2.moved hW⟩
theorem Wd.blind {G : Gm} {σ : Sto} {U : State} (g : JFrame) (mk : MethodId) (a : Array Value) (h : Wd G σ U) : Wd G σ (U.calling g mk a) :=
  ⟨h.1, ⟨va_K.moved (u := U) (U := U.calling g mk a) (Vm.Alike.refl U.vm) h.2.1.1, h.2.1.2.same rfl⟩, h.2.2.alike (U := U.calling g mk a) (Vm.Alike.refl U.vm)⟩
/-! locals as a list: what is known of each -/
def asc : Nat → List (Option Value) → List (Nat × Value)
  | _, [] => []
  | i, none :: r => asc (i + 1) r
  | i, some v :: r => (i, v) :: asc (i + 1) r
theorem asc_mem (r : List (Option Value)) : ∀ (i k : Nat) (w : Value), (k, w) ∈ asc i r ↔ i ≤ k ∧ r[k - i]? = some (some w) := by
  induction r with
  | nil => intro i k w; simp [asc]
  | cons a r ih =>
    intro i k w
    have key : (k, w) ∈ asc (i + 1) r ↔ i + 1 ≤ k ∧ (a :: r)[k - i]? = some (some w) := by
      rw [ih (i + 1) k w]
      refine and_congr_right fun h => ?_
      rw [show k - i = (k - (i + 1)) + 1 by omega, List.getElem?_cons_succ]
    have hz : i ≤ k ∧ (a :: r)[k - i]? = some (some w) ↔ (k = i ∧ a = some w) ∨ (i + 1 ≤ k ∧ (a :: r)[k - i]? = some (some w)) := by
      constructor
      · rintro ⟨h1, h2⟩
        rcases Nat.eq_or_lt_of_le h1 with e | e
        · subst e
          rw [Nat.sub_self] at h2
          exact Or.inl ⟨rfl, by simpa using h2⟩
        · exact Or.inr ⟨e, h2⟩
      · rintro (⟨rfl, rfl⟩ | ⟨h1, h2⟩)
        · exact ⟨Nat.le_refl _, by simp⟩
        · exact ⟨by omega, h2⟩
    rw [hz]
    cases a with
    | none => simp only [asc, key]; simp
    | some v =>
      simp only [asc, List.mem_cons, key, Prod.mk.injEq]
      constructor
      · rintro (⟨rfl, rfl⟩ | h)
        · exact Or.inl ⟨rfl, rfl⟩
        · exact Or.inr h
      · rintro (⟨rfl, h⟩ | h)
        · exact Or.inl ⟨rfl, (Option.some.inj h).symm⟩
        · exact Or.inr h
def lcok (ls : Array Slot) (lc : List (Option Value)) : Prop := lv_has ls lc.length (asc 0 lc)
theorem lcok_at {ls : Array Slot} {lc : List (Option Value)} (h : lcok ls lc) {i : Nat} {v : Value} (hi : lc[i]? = some (some v)) : ls[i]? = some (.val v) := h.2.2 (i, v) ((asc_mem lc 0 i v).mpr ⟨Nat.zero_le _, hi⟩)
def kil (lc : List (Option Value)) (i : Nat) : List (Option Value) := match i with
  | 0 => lc
  | i + 1 => match lc[i]? with
    | some (some (.long _)) => lc.set i none
    | some (some (.double _)) => lc.set i none
    | _ => lc
def stv (lc : List (Option Value)) (i : Nat) (v : Value) : List (Option Value) := (kil lc i).set i (some v)
def stw (lc : List (Option Value)) (i : Nat) (v : Value) : List (Option Value) := ((kil lc i).set (i + 1) none).set i (some v)
theorem kil_len (lc : List (Option Value)) (i : Nat) : (kil lc i).length = lc.length := by
  unfold kil
  split
  · rfl
  · split <;> simp
theorem kil_at {lc : List (Option Value)} {i k : Nat} {w : Value} (h : (kil lc i)[k]? = some (some w)) : lc[k]? = some (some w) ∧ ¬ (k + 1 = i ∧ w.category = 2) := by
  unfold kil at h
  split at h
  · exact ⟨h, fun q => by omega⟩
  · rename_i i
    have aux : ∀ x : Option Value, lc[i]? = some x → (lc.set i none)[k]? = some (some w) → lc[k]? = some (some w) ∧ ¬ (k + 1 = i + 1 ∧ w.category = 2) := by
      intro x hx hk
      by_cases e : i = k
      · subst e
        rw [List.getElem?_set_self (List.getElem?_eq_some_iff.mp hx).1] at hk
        cases hk
      · rw [List.getElem?_set_ne e] at hk
        exact ⟨hk, fun q => by omega⟩
    split at h
    · rename_i hx; exact aux _ hx h
    · rename_i hx; exact aux _ hx h
    · rename_i n1 n2
      refine ⟨h, ?_⟩
      rintro ⟨e, c⟩
      have e2 : k = i := by omega
      subst e2
      cases w <;> simp [Value.category] at c
      · exact n1 _ h
      · exact n2 _ h
theorem lcok_stv {ls ls' : Array Slot} {lc : List (Option Value)} {i : Nat} {v : Value} (hi : i < lc.length) (h : lv_has ls' lc.length ((i, v) :: (asc 0 lc).filter (fun q => !(q.1 == i) && !(q.1 + 1 == i && q.2.category == 2)))) : lcok ls' (stv lc i v) := by
  refine ⟨by rw [h.1, stv, List.length_set, kil_len], h.2.1, fun q hq => h.2.2 q ?_⟩
  obtain ⟨k, w⟩ := q
  have hk := ((asc_mem _ 0 k w).mp hq).2
  rw [Nat.sub_zero, stv] at hk
  by_cases e : i = k
  · subst e
    rw [List.getElem?_set_self (by rw [kil_len]; exact hi)] at hk
    cases hk
    exact List.mem_cons_self
  · rw [List.getElem?_set_ne e] at hk
    obtain ⟨h1, h2⟩ := kil_at hk
    refine List.mem_cons_of_mem _ (List.mem_filter.mpr ⟨(asc_mem lc 0 k w).mpr ⟨Nat.zero_le _, h1⟩, ?_⟩)
    have e1 : (k == i) = false := by simpa using fun q => e q.symm
    have e2 : (k + 1 == i && w.category == 2) = false := by
      rw [Bool.eq_false_iff]
      intro q
      rw [Bool.and_eq_true, beq_iff_eq, beq_iff_eq] at q
      exact h2 q
    show (!(k == i) && !(k + 1 == i && w.category == 2)) = true
    rw [e1, e2]
    rfl
theorem lcok_stw {ls ls' : Array Slot} {lc : List (Option Value)} {i : Nat} {v : Value} (hi : i + 1 < lc.length) (h : lv_has ls' lc.length ((i, v) :: (asc 0 lc).filter (fun q => !(q.1 == i) && (!(q.1 == i + 1) && !(q.1 + 1 == i && q.2.category == 2))))) : lcok ls' (stw lc i v) := by
  refine ⟨by rw [h.1, stw, List.length_set, List.length_set, kil_len], h.2.1, fun q hq => h.2.2 q ?_⟩
  obtain ⟨k, w⟩ := q
  have hk := ((asc_mem _ 0 k w).mp hq).2
  rw [Nat.sub_zero, stw] at hk
  by_cases e : i = k
  · subst e
    rw [List.getElem?_set_self (by rw [List.length_set, kil_len]; omega)] at hk
    cases hk
    exact List.mem_cons_self
  · rw [List.getElem?_set_ne e] at hk
    by_cases e3 : i + 1 = k
    · subst e3
      rw [List.getElem?_set_self (by rw [kil_len]; omega)] at hk
      cases hk
    rw [List.getElem?_set_ne e3] at hk
    obtain ⟨h1, h2⟩ := kil_at hk
    refine List.mem_cons_of_mem _ (List.mem_filter.mpr ⟨(asc_mem lc 0 k w).mpr ⟨Nat.zero_le _, h1⟩, ?_⟩)
    have e1 : (k == i) = false := by simpa using fun q => e q.symm
    have e4 : (k == i + 1) = false := by simpa using fun q => e3 q.symm
    have e2 : (k + 1 == i && w.category == 2) = false := by
      rw [Bool.eq_false_iff]
      intro q
      rw [Bool.and_eq_true, beq_iff_eq, beq_iff_eq] at q
      exact h2 q
    show (!(k == i) && (!(k == i + 1) && !(k + 1 == i && w.category == 2))) = true
    rw [e1, e2, e4]
    rfl
/-- fewer known locals -/
def mask : List Bool → List (Option Value) → List (Option Value)
  | b :: bs, a :: as => (if b then a else none) :: mask bs as
  | [], as => as.map fun _ => none
  | _, [] => []
theorem mask_at (bs : List Bool) : ∀ (as : List (Option Value)), (mask bs as).length = as.length ∧ ∀ (k : Nat) (w : Value), (mask bs as)[k]? = some (some w) → as[k]? = some (some w) := by
  induction bs with
  | nil =>
    intro as
    have e : mask [] as = as.map fun _ => none := by cases as <;> rfl
    rw [e]
    refine ⟨by simp, fun k w h => ?_⟩
    rw [List.getElem?_map] at h
    rcases hx : as[k]? with _ | z <;> rw [hx] at h <;> simp at h
  | cons b bs ih =>
    intro as
    cases as with
    | nil => exact ⟨rfl, fun k w h => by simp [mask] at h⟩
    | cons a as =>
      refine ⟨by simp [mask, (ih as).1], fun k w h => ?_⟩
      cases k with
      | zero =>
        cases b
        · simp [mask] at h
        · simpa [mask] using h
      | succ k =>
        rw [mask, List.getElem?_cons_succ] at h
        rw [List.getElem?_cons_succ]
        exact (ih as).2 k w h
theorem lcok_mask {ls : Array Slot} {lc : List (Option Value)} (bs : List Bool) (h : lcok ls lc) : lcok ls (mask bs lc) := by
  refine ⟨by rw [h.1, (mask_at bs lc).1], h.2.1, fun q hq => ?_⟩
  obtain ⟨k, w⟩ := q
  have hk := ((asc_mem _ 0 k w).mp hq).2
  rw [Nat.sub_zero] at hk
  exact lcok_at h ((mask_at bs lc).2 k w hk)
/-! the judgement -/
abbrev Cx : Type := Program × Launch × Env × Room × State × MethodId × Array Value × List Frame × Method × Code
abbrev cxS (X : Cx) : State := X.2.2.2.2.1
abbrev cxR (X : Cx) : Room := X.2.2.2.1
abbrev cxM (X : Cx) : MethodId := X.2.2.2.2.2.1
abbrev cxA (X : Cx) : Array Value := X.2.2.2.2.2.2.1
abbrev cxC (X : Cx) : Code := X.2.2.2.2.2.2.2.2.2
abbrev cxN (X : Cx) : Method := X.2.2.2.2.2.2.2.2.1
abbrev WX (X : Cx) (H : Heap) (locs : List Loc) (mc ms : Nat) (Q : State → Prop) (g : JFrame) : Prop := W X.1 X.2.1 X.2.2.1 X.2.2.2.1 X.2.2.2.2.1 X.2.2.2.2.2.1 X.2.2.2.2.2.2.1 X.2.2.2.2.2.2.2.1 X.2.2.2.2.2.2.2.2.1 X.2.2.2.2.2.2.2.2.2 H locs mc ms Q g
def V (X : Cx) (G : Gm) (mc ms : Nat) (Q : State → Prop) (σ : Sto) (pc : Nat) (lc : List (Option Value)) (st : List Value) : Prop :=
  ∀ (H : Heap) (locs : List Loc) (ls : Array Slot), Rep G σ H → va_S (AG G) (cxS X).heap H locs → lcok ls lc → WX X H locs mc ms Q (F0 (cxM X) pc ls st)
/-- what holds all over a method's walk: the code, the class, the locals' number, the depth d of calls left, what it returns -/
def Gd (X : Cx) (G : Gm) (cc : ByteArray) (own : String) (nL d : Nat) (ret : Option FieldType) (mc ms : Nat) : Prop :=
  X.1.tables.exec = Jvm.exec ∧ (cxC X).code = cc ∧ (cxC X).maxLocals = nL ∧ (cxS X).vm.findClass own = some (cxM X).cls ∧ (∀ w ∈ wsA, w.before (cxA X) (cxS X) = true) ∧ Wt G (cxS X) ∧ Wf G (cxS X) (cxS X).heap ∧ d ≤ (cxR X).frames ∧ 41 * d ≤ (cxR X).locals ∧ mc ≤ (cxR X).cells ∧ ms ≤ (cxR X).slots ∧ (cxN X).sig.returnType = ret ∧ (cxN X).locks = false
section V1
variable {X : Cx} {G : Gm} {mc ms : Nat} {Q : State → Prop} {σ : Sto} {pc : Nat} {lc : List (Option Value)} {st : List Value} {cc : ByteArray} {own : String} {nL d : Nat} {ret : Option FieldType}
abbrev inb (i : Int32) (n : Nat) : Prop := 0 ≤ i.toInt ∧ i.toInt < (n : Int)
def jn {α β : Type} (f : α) (g : α → β) : β := g f
def bd {α : Type} (f : Option (Int32 × Sto)) (k : Int32 → Sto → Option α) : Option α := match f with
  | none => none
  | some (r, σ) => k r σ
def bv {α : Type} (f : Option Sto) (k : Sto → Option α) : Option α := match f with
  | none => none
  | some σ => k σ
theorem bd_some {α : Type} {f : Option (Int32 × Sto)} {k : Int32 → Sto → Option α} {x : α} (h : bd f k = some x) : ∃ r σ, f = some (r, σ) ∧ k r σ = some x := by
  cases f with
  | none => cases h
  | some q => exact ⟨q.1, q.2, rfl, h⟩
theorem bv_some {α : Type} {f : Option Sto} {k : Sto → Option α} {x : α} (h : bv f k = some x) : ∃ σ, f = some σ ∧ k σ = some x := by
  cases f with
  | none => cases h
  | some q => exact ⟨q, rfl, h⟩
theorem if_some {α : Type} {p : Prop} [Decidable p] {a : Option α} {x : α} (h : (if p then a else none) = some x) : p ∧ a = some x := by
  by_cases hp : p
  · rw [if_pos hp] at h; exact ⟨hp, h⟩
  · rw [if_neg hp] at h; cases h
theorem v_mask (bs : List Bool) {lc' : List (Option Value)} (e : mask bs lc = lc') (kk : V X G mc ms Q σ pc lc' st) : V X G mc ms Q σ pc lc st := fun H locs ls hR hS hl => kk H locs ls hR hS (e ▸ lcok_mask bs hl)
theorem v_join {α R : Type} {f : α} {g : α → Option R} {res : R} {T : Prop} (P : α → Prop) (h : jn f g = some res) (h1 : P f) (h2 : ∀ k, P k → g k = some res → T) : T := h2 f h1 h

theorem v_iconst (C : Gd X G cc own nL d ret mc ms) {n : Int} {v : Int32} (hd : decode cc pc = .ok (.iconst n, 1)) (hv : Int32.ofInt n = v) (kk : V X G mc ms Q σ (pc + 1) lc (.int v :: st)) : V X G mc ms Q σ pc lc (st) := fun H locs ls hR hS hl => lv_iconst C.1 C.2.1 hd hv (kk H locs ls hR hS hl)
theorem v_bipush (C : Gd X G cc own nL d ret mc ms) {n : Int} {v : Int32} (hd : decode cc pc = .ok (.bipush n, 2)) (hv : (Int8.ofInt n).toInt32 = v) (kk : V X G mc ms Q σ (pc + 2) lc (.int v :: st)) : V X G mc ms Q σ pc lc (st) := fun H locs ls hR hS hl => lv_bipush C.1 C.2.1 hd hv (kk H locs ls hR hS hl)
theorem v_sipush (C : Gd X G cc own nL d ret mc ms) {n : Int} {v : Int32} (hd : decode cc pc = .ok (.sipush n, 3)) (hv : (Int16.ofInt n).toInt32 = v) (kk : V X G mc ms Q σ (pc + 3) lc (.int v :: st)) : V X G mc ms Q σ pc lc (st) := fun H locs ls hR hS hl => lv_sipush C.1 C.2.1 hd hv (kk H locs ls hR hS hl)
theorem v_lconst (C : Gd X G cc own nL d ret mc ms) {n : Fin 2} {v : Int64} (hd : decode cc pc = .ok (.lconst n, 1)) (hv : Int64.ofNat (n : Nat) = v) (kk : V X G mc ms Q σ (pc + 1) lc (.long v :: st)) : V X G mc ms Q σ pc lc (st) := fun H locs ls hR hS hl => lv_lconst C.1 C.2.1 hd hv (kk H locs ls hR hS hl)
theorem v_ldc (C : Gd X G cc own nL d ret mc ms) {index : Nat} {v : Int32} (hd : decode cc pc = .ok (.ldc index, 2)) (hw : Cond.constant own index v ∈ wsA) (kk : V X G mc ms Q σ (pc + 2) lc (.int v :: st)) : V X G mc ms Q σ pc lc st := fun H locs ls hR hS hl => lv_ldc C.1 C.2.1 C.2.2.2.1 (C.2.2.2.2.1 _ hw) hd (kk H locs ls hR hS hl)
theorem v_ldcw (C : Gd X G cc own nL d ret mc ms) {index : Nat} {v : Int32} (hd : decode cc pc = .ok (.ldc_w index, 3)) (hw : Cond.constant own index v ∈ wsA) (kk : V X G mc ms Q σ (pc + 3) lc (.int v :: st)) : V X G mc ms Q σ pc lc st := fun H locs ls hR hS hl => lv_ldcw C.1 C.2.1 C.2.2.2.1 (C.2.2.2.2.1 _ hw) hd (kk H locs ls hR hS hl)
theorem v_ldc2 (C : Gd X G cc own nL d ret mc ms) {index : Nat} {v : Int64} (hd : decode cc pc = .ok (.ldc2_w index, 3)) (hw : Cond.constantLong own index v ∈ wsA) (kk : V X G mc ms Q σ (pc + 3) lc (.long v :: st)) : V X G mc ms Q σ pc lc st := fun H locs ls hR hS hl => lv_ldc2 C.1 C.2.1 C.2.2.2.1 (C.2.2.2.2.1 _ hw) hd (kk H locs ls hR hS hl)
theorem v_iload_n (C : Gd X G cc own nL d ret mc ms) {k : Fin 4} {i : Nat} {x : Int32} (hd : decode cc pc = .ok (.iload_n k, 1)) (hi : (k : Nat) = i) (hl : lc[i]? = some (some (.int x))) (kk : V X G mc ms Q σ (pc + 1) lc (.int x :: st)) : V X G mc ms Q σ pc lc st := fun H locs ls hR hS h => lv_iload_n C.1 C.2.1 hd hi (lcok_at h hl) (kk H locs ls hR hS h)
theorem v_iload (C : Gd X G cc own nL d ret mc ms) {i : Nat} {x : Int32} (hd : decode cc pc = .ok (.iload i, 2)) (hl : lc[i]? = some (some (.int x))) (kk : V X G mc ms Q σ (pc + 2) lc (.int x :: st)) : V X G mc ms Q σ pc lc st := fun H locs ls hR hS h => lv_iload C.1 C.2.1 hd (lcok_at h hl) (kk H locs ls hR hS h)
theorem v_istore_n (C : Gd X G cc own nL d ret mc ms) {k : Fin 4} {i : Nat} {x : Int32} {lc1 : List (Option Value)} (hd : decode cc pc = .ok (.istore_n k, 1)) (hi : (k : Nat) = i) (hlt : i < lc.length) (e : stv lc i (.int x) = lc1) (kk : V X G mc ms Q σ (pc + 1) lc1 st) : V X G mc ms Q σ pc lc (.int x :: st) := fun H locs ls hR hS h => lv_istore_n C.1 C.2.1 hd hi h hlt rfl (fun ls1 h1 => kk H locs ls1 hR hS (e ▸ lcok_stv (ls := ls) hlt h1))
theorem v_istore (C : Gd X G cc own nL d ret mc ms) {i : Nat} {x : Int32} {lc1 : List (Option Value)} (hd : decode cc pc = .ok (.istore i, 2)) (hlt : i < lc.length) (e : stv lc i (.int x) = lc1) (kk : V X G mc ms Q σ (pc + 2) lc1 st) : V X G mc ms Q σ pc lc (.int x :: st) := fun H locs ls hR hS h => lv_istore C.1 C.2.1 hd h hlt rfl (fun ls1 h1 => kk H locs ls1 hR hS (e ▸ lcok_stv (ls := ls) hlt h1))
theorem v_lload_n (C : Gd X G cc own nL d ret mc ms) {k : Fin 4} {i : Nat} {x : Int64} (hd : decode cc pc = .ok (.lload_n k, 1)) (hi : (k : Nat) = i) (hl : lc[i]? = some (some (.long x))) (kk : V X G mc ms Q σ (pc + 1) lc (.long x :: st)) : V X G mc ms Q σ pc lc st := fun H locs ls hR hS h => lv_lload_n C.1 C.2.1 hd hi (lcok_at h hl) (kk H locs ls hR hS h)
theorem v_lload (C : Gd X G cc own nL d ret mc ms) {i : Nat} {x : Int64} (hd : decode cc pc = .ok (.lload i, 2)) (hl : lc[i]? = some (some (.long x))) (kk : V X G mc ms Q σ (pc + 2) lc (.long x :: st)) : V X G mc ms Q σ pc lc st := fun H locs ls hR hS h => lv_lload C.1 C.2.1 hd (lcok_at h hl) (kk H locs ls hR hS h)
theorem v_lstore_n (C : Gd X G cc own nL d ret mc ms) {k : Fin 4} {i : Nat} {x : Int64} {lc1 : List (Option Value)} (hd : decode cc pc = .ok (.lstore_n k, 1)) (hi : (k : Nat) = i) (hlt : i + 1 < lc.length) (e : stw lc i (.long x) = lc1) (kk : V X G mc ms Q σ (pc + 1) lc1 st) : V X G mc ms Q σ pc lc (.long x :: st) := fun H locs ls hR hS h => lv_lstore_n C.1 C.2.1 hd hi h hlt rfl (fun ls1 h1 => kk H locs ls1 hR hS (e ▸ lcok_stw (ls := ls) hlt h1))
theorem v_lstore (C : Gd X G cc own nL d ret mc ms) {i : Nat} {x : Int64} {lc1 : List (Option Value)} (hd : decode cc pc = .ok (.lstore i, 2)) (hlt : i + 1 < lc.length) (e : stw lc i (.long x) = lc1) (kk : V X G mc ms Q σ (pc + 2) lc1 st) : V X G mc ms Q σ pc lc (.long x :: st) := fun H locs ls hR hS h => lv_lstore C.1 C.2.1 hd h hlt rfl (fun ls1 h1 => kk H locs ls1 hR hS (e ▸ lcok_stw (ls := ls) hlt h1))
theorem v_aload_n (C : Gd X G cc own nL d ret mc ms) {k : Fin 4} {i : Nat} {x : Nat} (hd : decode cc pc = .ok (.aload_n k, 1)) (hi : (k : Nat) = i) (hl : lc[i]? = some (some (.ref x))) (kk : V X G mc ms Q σ (pc + 1) lc (.ref x :: st)) : V X G mc ms Q σ pc lc st := fun H locs ls hR hS h => lv_aload_n C.1 C.2.1 hd hi (lcok_at h hl) (kk H locs ls hR hS h)
theorem v_aload (C : Gd X G cc own nL d ret mc ms) {i : Nat} {x : Nat} (hd : decode cc pc = .ok (.aload i, 2)) (hl : lc[i]? = some (some (.ref x))) (kk : V X G mc ms Q σ (pc + 2) lc (.ref x :: st)) : V X G mc ms Q σ pc lc st := fun H locs ls hR hS h => lv_aload C.1 C.2.1 hd (lcok_at h hl) (kk H locs ls hR hS h)
theorem v_astore_n (C : Gd X G cc own nL d ret mc ms) {k : Fin 4} {i : Nat} {x : Nat} {lc1 : List (Option Value)} (hd : decode cc pc = .ok (.astore_n k, 1)) (hi : (k : Nat) = i) (hlt : i < lc.length) (e : stv lc i (.ref x) = lc1) (kk : V X G mc ms Q σ (pc + 1) lc1 st) : V X G mc ms Q σ pc lc (.ref x :: st) := fun H locs ls hR hS h => lv_astore_n C.1 C.2.1 hd hi h hlt rfl (fun ls1 h1 => kk H locs ls1 hR hS (e ▸ lcok_stv (ls := ls) hlt h1))
theorem v_astore (C : Gd X G cc own nL d ret mc ms) {i : Nat} {x : Nat} {lc1 : List (Option Value)} (hd : decode cc pc = .ok (.astore i, 2)) (hlt : i < lc.length) (e : stv lc i (.ref x) = lc1) (kk : V X G mc ms Q σ (pc + 2) lc1 st) : V X G mc ms Q σ pc lc (.ref x :: st) := fun H locs ls hR hS h => lv_astore C.1 C.2.1 hd h hlt rfl (fun ls1 h1 => kk H locs ls1 hR hS (e ▸ lcok_stv (ls := ls) hlt h1))
theorem v_iinc (C : Gd X G cc own nL d ret mc ms) {i : Nat} {n : Int} {x v : Int32} {lc1 : List (Option Value)} (hd : decode cc pc = .ok (.iinc i n, 3)) (hl : lc[i]? = some (some (.int x))) (hv : x + Int32.ofInt n = v) (e : stv lc i (.int v) = lc1) (kk : V X G mc ms Q σ (pc + 3) lc1 st) : V X G mc ms Q σ pc lc st := by
  intro H locs ls hR hS h
  obtain ⟨k, hk⟩ := List.getElem?_of_mem ((asc_mem lc 0 i _).mpr ⟨Nat.zero_le _, hl⟩)
  have hlt : i < lc.length := (List.getElem?_eq_some_iff.mp hl).1
  exact lv_iinc C.1 C.2.1 hd h hk hv hlt rfl (fun ls1 h1 => kk H locs ls1 hR hS (e ▸ lcok_stv (ls := ls) hlt h1))
theorem v_iadd (C : Gd X G cc own nL d ret mc ms) {x y : Int32} (hd : decode cc pc = .ok (.iadd, 1))  (kk : V X G mc ms Q σ (pc + 1) lc (.int (x + y) :: st)) : V X G mc ms Q σ pc lc (.int y :: .int x :: st) := fun H locs ls hR hS hl => lv_iadd C.1 C.2.1 hd  (kk H locs ls hR hS hl)
theorem v_isub (C : Gd X G cc own nL d ret mc ms) {x y : Int32} (hd : decode cc pc = .ok (.isub, 1))  (kk : V X G mc ms Q σ (pc + 1) lc (.int (x - y) :: st)) : V X G mc ms Q σ pc lc (.int y :: .int x :: st) := fun H locs ls hR hS hl => lv_isub C.1 C.2.1 hd  (kk H locs ls hR hS hl)
theorem v_imul (C : Gd X G cc own nL d ret mc ms) {x y : Int32} (hd : decode cc pc = .ok (.imul, 1))  (kk : V X G mc ms Q σ (pc + 1) lc (.int (x * y) :: st)) : V X G mc ms Q σ pc lc (.int y :: .int x :: st) := fun H locs ls hR hS hl => lv_imul C.1 C.2.1 hd  (kk H locs ls hR hS hl)
theorem v_iand (C : Gd X G cc own nL d ret mc ms) {x y : Int32} (hd : decode cc pc = .ok (.iand, 1))  (kk : V X G mc ms Q σ (pc + 1) lc (.int (x &&& y) :: st)) : V X G mc ms Q σ pc lc (.int y :: .int x :: st) := fun H locs ls hR hS hl => lv_iand C.1 C.2.1 hd  (kk H locs ls hR hS hl)
theorem v_ior (C : Gd X G cc own nL d ret mc ms) {x y : Int32} (hd : decode cc pc = .ok (.ior, 1))  (kk : V X G mc ms Q σ (pc + 1) lc (.int (x ||| y) :: st)) : V X G mc ms Q σ pc lc (.int y :: .int x :: st) := fun H locs ls hR hS hl => lv_ior C.1 C.2.1 hd  (kk H locs ls hR hS hl)
theorem v_ishl (C : Gd X G cc own nL d ret mc ms) {x y : Int32} (hd : decode cc pc = .ok (.ishl, 1))  (kk : V X G mc ms Q σ (pc + 1) lc (.int (x <<< (y &&& 31)) :: st)) : V X G mc ms Q σ pc lc (.int y :: .int x :: st) := fun H locs ls hR hS hl => lv_ishl C.1 C.2.1 hd  (kk H locs ls hR hS hl)
theorem v_ishr (C : Gd X G cc own nL d ret mc ms) {x y : Int32} (hd : decode cc pc = .ok (.ishr, 1))  (kk : V X G mc ms Q σ (pc + 1) lc (.int (x >>> (y &&& 31)) :: st)) : V X G mc ms Q σ pc lc (.int y :: .int x :: st) := fun H locs ls hR hS hl => lv_ishr C.1 C.2.1 hd  (kk H locs ls hR hS hl)
theorem v_ladd (C : Gd X G cc own nL d ret mc ms) {x y : Int64} (hd : decode cc pc = .ok (.ladd, 1))  (kk : V X G mc ms Q σ (pc + 1) lc (.long (x + y) :: st)) : V X G mc ms Q σ pc lc (.long y :: .long x :: st) := fun H locs ls hR hS hl => lv_ladd C.1 C.2.1 hd  (kk H locs ls hR hS hl)
theorem v_lsub (C : Gd X G cc own nL d ret mc ms) {x y : Int64} (hd : decode cc pc = .ok (.lsub, 1))  (kk : V X G mc ms Q σ (pc + 1) lc (.long (x - y) :: st)) : V X G mc ms Q σ pc lc (.long y :: .long x :: st) := fun H locs ls hR hS hl => lv_lsub C.1 C.2.1 hd  (kk H locs ls hR hS hl)
theorem v_lmul (C : Gd X G cc own nL d ret mc ms) {x y : Int64} (hd : decode cc pc = .ok (.lmul, 1))  (kk : V X G mc ms Q σ (pc + 1) lc (.long (x * y) :: st)) : V X G mc ms Q σ pc lc (.long y :: .long x :: st) := fun H locs ls hR hS hl => lv_lmul C.1 C.2.1 hd  (kk H locs ls hR hS hl)
theorem v_idiv (C : Gd X G cc own nL d ret mc ms) {x y : Int32} (hd : decode cc pc = .ok (.idiv, 1)) (hne : ¬ y = 0) (kk : V X G mc ms Q σ (pc + 1) lc (.int (x / y) :: st)) : V X G mc ms Q σ pc lc (.int y :: .int x :: st) := fun H locs ls hR hS hl => lv_idiv C.1 C.2.1 hd hne (kk H locs ls hR hS hl)
theorem v_irem (C : Gd X G cc own nL d ret mc ms) {x y : Int32} (hd : decode cc pc = .ok (.irem, 1)) (hne : ¬ y = 0) (kk : V X G mc ms Q σ (pc + 1) lc (.int (x - x / y * y) :: st)) : V X G mc ms Q σ pc lc (.int y :: .int x :: st) := fun H locs ls hR hS hl => lv_irem C.1 C.2.1 hd hne (kk H locs ls hR hS hl)
theorem v_ldiv (C : Gd X G cc own nL d ret mc ms) {x y : Int64} (hd : decode cc pc = .ok (.ldiv, 1)) (hne : ¬ y = 0) (kk : V X G mc ms Q σ (pc + 1) lc (.long (x / y) :: st)) : V X G mc ms Q σ pc lc (.long y :: .long x :: st) := fun H locs ls hR hS hl => lv_ldiv C.1 C.2.1 hd hne (kk H locs ls hR hS hl)
theorem v_ineg (C : Gd X G cc own nL d ret mc ms) {x : Int32} (hd : decode cc pc = .ok (.ineg, 1))  (kk : V X G mc ms Q σ (pc + 1) lc (.int (-x) :: st)) : V X G mc ms Q σ pc lc (.int x :: st) := fun H locs ls hR hS hl => lv_ineg C.1 C.2.1 hd  (kk H locs ls hR hS hl)
theorem v_i2l (C : Gd X G cc own nL d ret mc ms) {x : Int32} (hd : decode cc pc = .ok (.i2l, 1))  (kk : V X G mc ms Q σ (pc + 1) lc (.long x.toInt64 :: st)) : V X G mc ms Q σ pc lc (.int x :: st) := fun H locs ls hR hS hl => lv_i2l C.1 C.2.1 hd rfl (kk H locs ls hR hS hl)
theorem v_l2i (C : Gd X G cc own nL d ret mc ms) {x : Int64} (hd : decode cc pc = .ok (.l2i, 1))  (kk : V X G mc ms Q σ (pc + 1) lc (.int x.toInt32 :: st)) : V X G mc ms Q σ pc lc (.long x :: st) := fun H locs ls hR hS hl => lv_l2i C.1 C.2.1 hd rfl (kk H locs ls hR hS hl)
theorem v_i2c (C : Gd X G cc own nL d ret mc ms) {x : Int32} (hd : decode cc pc = .ok (.i2c, 1))  (kk : V X G mc ms Q σ (pc + 1) lc (.int (x.toUInt32 % 65536).toInt32 :: st)) : V X G mc ms Q σ pc lc (.int x :: st) := fun H locs ls hR hS hl => lv_i2c C.1 C.2.1 hd rfl (kk H locs ls hR hS hl)
theorem v_lcmp (C : Gd X G cc own nL d ret mc ms) {x y : Int64} (hd : decode cc pc = .ok (.lcmp, 1))  (kk : V X G mc ms Q σ (pc + 1) lc (.int (lg_cmp x y) :: st)) : V X G mc ms Q σ pc lc (.long y :: .long x :: st) := fun H locs ls hR hS hl => W.lcmp C.1 C.2.1 hd  (kk H locs ls hR hS hl)
theorem v_dup (C : Gd X G cc own nL d ret mc ms) {va : Value} (hd : decode cc pc = .ok (.dup, 1)) (h1 : va.category = 1) (kk : V X G mc ms Q σ (pc + 1) lc (va :: va :: st)) : V X G mc ms Q σ pc lc (va :: st) := fun H locs ls hR hS hl => lv_dup C.1 C.2.1 hd h1 (kk H locs ls hR hS hl)
theorem v_dup2 (C : Gd X G cc own nL d ret mc ms) {va vb : Value} (hd : decode cc pc = .ok (.dup2, 1)) (h1 : va.category = 1) (h2 : vb.category = 1) (kk : V X G mc ms Q σ (pc + 1) lc (va :: vb :: va :: vb :: st)) : V X G mc ms Q σ pc lc (va :: vb :: st) := fun H locs ls hR hS hl => lv_dup2_11 C.1 C.2.1 hd h1 h2 (kk H locs ls hR hS hl)
theorem v_pop (C : Gd X G cc own nL d ret mc ms) {va : Value} (hd : decode cc pc = .ok (.pop, 1)) (h1 : va.category = 1) (kk : V X G mc ms Q σ (pc + 1) lc (st)) : V X G mc ms Q σ pc lc (va :: st) := fun H locs ls hR hS hl => lv_pop C.1 C.2.1 hd h1 (kk H locs ls hR hS hl)
theorem v_goto (C : Gd X G cc own nL d ret mc ms) {off : Int} {tgt : Nat} (hd : decode cc pc = .ok (.goto off, 3)) (ht : (pc : Int) + off = (tgt : Int)) (kk : V X G mc ms Q σ tgt lc st) : V X G mc ms Q σ pc lc st := fun H locs ls hR hS hl => lv_goto C.1 C.2.1 hd ht (kk H locs ls hR hS hl)
theorem v_if_ne (C : Gd X G cc own nL d ret mc ms) {R : Type} {x : Int32} {off : Int} {tgt : Nat} {A B : Option R} {res : R} (hd : decode cc pc = .ok (.ifCond .ne off, 3)) (ht : (pc : Int) + off = (tgt : Int)) (h : (if x = 0 then B else A) = some res) (kt : A = some res → V X G mc ms Q σ tgt lc st) (kf : B = some res → V X G mc ms Q σ (pc + 3) lc st) : V X G mc ms Q σ pc lc (.int x :: st) := fun H locs ls hR hS hl => lv_if_ne C.1 C.2.1 hd ht (fun p => kt (by rwa [if_neg p] at h) H locs ls hR hS hl) (fun p => kf (by rwa [if_pos p] at h) H locs ls hR hS hl)
theorem v_icmp_ne (C : Gd X G cc own nL d ret mc ms) {R : Type} {x y : Int32} {off : Int} {tgt : Nat} {A B : Option R} {res : R} (hd : decode cc pc = .ok (.if_icmp .ne off, 3)) (ht : (pc : Int) + off = (tgt : Int)) (h : (if x = y then B else A) = some res) (kt : A = some res → V X G mc ms Q σ tgt lc st) (kf : B = some res → V X G mc ms Q σ (pc + 3) lc st) : V X G mc ms Q σ pc lc (.int y :: .int x :: st) := fun H locs ls hR hS hl => lv_icmp_ne C.1 C.2.1 hd ht (fun p => kt (by rwa [if_neg p] at h) H locs ls hR hS hl) (fun p => kf (by rwa [if_pos p] at h) H locs ls hR hS hl)
theorem v_if_eq (C : Gd X G cc own nL d ret mc ms) {R : Type} {x : Int32} {off : Int} {tgt : Nat} {A B : Option R} {res : R} (hd : decode cc pc = .ok (.ifCond .eq off, 3)) (ht : (pc : Int) + off = (tgt : Int)) (h : (if x = 0 then A else B) = some res) (kt : A = some res → V X G mc ms Q σ tgt lc st) (kf : B = some res → V X G mc ms Q σ (pc + 3) lc st) : V X G mc ms Q σ pc lc (.int x :: st) := fun H locs ls hR hS hl => lv_if_eq C.1 C.2.1 hd ht (fun p => kt (by rwa [if_pos p] at h) H locs ls hR hS hl) (fun p => kf (by rwa [if_neg p] at h) H locs ls hR hS hl)
theorem v_icmp_eq (C : Gd X G cc own nL d ret mc ms) {R : Type} {x y : Int32} {off : Int} {tgt : Nat} {A B : Option R} {res : R} (hd : decode cc pc = .ok (.if_icmp .eq off, 3)) (ht : (pc : Int) + off = (tgt : Int)) (h : (if x = y then A else B) = some res) (kt : A = some res → V X G mc ms Q σ tgt lc st) (kf : B = some res → V X G mc ms Q σ (pc + 3) lc st) : V X G mc ms Q σ pc lc (.int y :: .int x :: st) := fun H locs ls hR hS hl => lv_icmp_eq C.1 C.2.1 hd ht (fun p => kt (by rwa [if_pos p] at h) H locs ls hR hS hl) (fun p => kf (by rwa [if_neg p] at h) H locs ls hR hS hl)
theorem v_if_lt (C : Gd X G cc own nL d ret mc ms) {R : Type} {x : Int32} {off : Int} {tgt : Nat} {A B : Option R} {res : R} (hd : decode cc pc = .ok (.ifCond .lt off, 3)) (ht : (pc : Int) + off = (tgt : Int)) (h : (if x < 0 then A else B) = some res) (kt : A = some res → V X G mc ms Q σ tgt lc st) (kf : B = some res → V X G mc ms Q σ (pc + 3) lc st) : V X G mc ms Q σ pc lc (.int x :: st) := fun H locs ls hR hS hl => lv_if_lt C.1 C.2.1 hd ht (fun p => kt (by rwa [if_pos p] at h) H locs ls hR hS hl) (fun p => kf (by rwa [if_neg p] at h) H locs ls hR hS hl)
theorem v_icmp_lt (C : Gd X G cc own nL d ret mc ms) {R : Type} {x y : Int32} {off : Int} {tgt : Nat} {A B : Option R} {res : R} (hd : decode cc pc = .ok (.if_icmp .lt off, 3)) (ht : (pc : Int) + off = (tgt : Int)) (h : (if x < y then A else B) = some res) (kt : A = some res → V X G mc ms Q σ tgt lc st) (kf : B = some res → V X G mc ms Q σ (pc + 3) lc st) : V X G mc ms Q σ pc lc (.int y :: .int x :: st) := fun H locs ls hR hS hl => lv_icmp_lt C.1 C.2.1 hd ht (fun p => kt (by rwa [if_pos p] at h) H locs ls hR hS hl) (fun p => kf (by rwa [if_neg p] at h) H locs ls hR hS hl)
theorem v_if_ge (C : Gd X G cc own nL d ret mc ms) {R : Type} {x : Int32} {off : Int} {tgt : Nat} {A B : Option R} {res : R} (hd : decode cc pc = .ok (.ifCond .ge off, 3)) (ht : (pc : Int) + off = (tgt : Int)) (h : (if 0 ≤ x then A else B) = some res) (kt : A = some res → V X G mc ms Q σ tgt lc st) (kf : B = some res → V X G mc ms Q σ (pc + 3) lc st) : V X G mc ms Q σ pc lc (.int x :: st) := fun H locs ls hR hS hl => lv_if_ge C.1 C.2.1 hd ht (fun p => kt (by rwa [if_pos p] at h) H locs ls hR hS hl) (fun p => kf (by rwa [if_neg p] at h) H locs ls hR hS hl)
theorem v_icmp_ge (C : Gd X G cc own nL d ret mc ms) {R : Type} {x y : Int32} {off : Int} {tgt : Nat} {A B : Option R} {res : R} (hd : decode cc pc = .ok (.if_icmp .ge off, 3)) (ht : (pc : Int) + off = (tgt : Int)) (h : (if y ≤ x then A else B) = some res) (kt : A = some res → V X G mc ms Q σ tgt lc st) (kf : B = some res → V X G mc ms Q σ (pc + 3) lc st) : V X G mc ms Q σ pc lc (.int y :: .int x :: st) := fun H locs ls hR hS hl => lv_icmp_ge C.1 C.2.1 hd ht (fun p => kt (by rwa [if_pos p] at h) H locs ls hR hS hl) (fun p => kf (by rwa [if_neg p] at h) H locs ls hR hS hl)
theorem v_if_gt (C : Gd X G cc own nL d ret mc ms) {R : Type} {x : Int32} {off : Int} {tgt : Nat} {A B : Option R} {res : R} (hd : decode cc pc = .ok (.ifCond .gt off, 3)) (ht : (pc : Int) + off = (tgt : Int)) (h : (if 0 < x then A else B) = some res) (kt : A = some res → V X G mc ms Q σ tgt lc st) (kf : B = some res → V X G mc ms Q σ (pc + 3) lc st) : V X G mc ms Q σ pc lc (.int x :: st) := fun H locs ls hR hS hl => lv_if_gt C.1 C.2.1 hd ht (fun p => kt (by rwa [if_pos p] at h) H locs ls hR hS hl) (fun p => kf (by rwa [if_neg p] at h) H locs ls hR hS hl)
theorem v_icmp_gt (C : Gd X G cc own nL d ret mc ms) {R : Type} {x y : Int32} {off : Int} {tgt : Nat} {A B : Option R} {res : R} (hd : decode cc pc = .ok (.if_icmp .gt off, 3)) (ht : (pc : Int) + off = (tgt : Int)) (h : (if y < x then A else B) = some res) (kt : A = some res → V X G mc ms Q σ tgt lc st) (kf : B = some res → V X G mc ms Q σ (pc + 3) lc st) : V X G mc ms Q σ pc lc (.int y :: .int x :: st) := fun H locs ls hR hS hl => lv_icmp_gt C.1 C.2.1 hd ht (fun p => kt (by rwa [if_pos p] at h) H locs ls hR hS hl) (fun p => kf (by rwa [if_neg p] at h) H locs ls hR hS hl)
theorem v_if_le (C : Gd X G cc own nL d ret mc ms) {R : Type} {x : Int32} {off : Int} {tgt : Nat} {A B : Option R} {res : R} (hd : decode cc pc = .ok (.ifCond .le off, 3)) (ht : (pc : Int) + off = (tgt : Int)) (h : (if x ≤ 0 then A else B) = some res) (kt : A = some res → V X G mc ms Q σ tgt lc st) (kf : B = some res → V X G mc ms Q σ (pc + 3) lc st) : V X G mc ms Q σ pc lc (.int x :: st) := fun H locs ls hR hS hl => lv_if_le C.1 C.2.1 hd ht (fun p => kt (by rwa [if_pos p] at h) H locs ls hR hS hl) (fun p => kf (by rwa [if_neg p] at h) H locs ls hR hS hl)
theorem v_icmp_le (C : Gd X G cc own nL d ret mc ms) {R : Type} {x y : Int32} {off : Int} {tgt : Nat} {A B : Option R} {res : R} (hd : decode cc pc = .ok (.if_icmp .le off, 3)) (ht : (pc : Int) + off = (tgt : Int)) (h : (if x ≤ y then A else B) = some res) (kt : A = some res → V X G mc ms Q σ tgt lc st) (kf : B = some res → V X G mc ms Q σ (pc + 3) lc st) : V X G mc ms Q σ pc lc (.int y :: .int x :: st) := fun H locs ls hR hS hl => lv_icmp_le C.1 C.2.1 hd ht (fun p => kt (by rwa [if_pos p] at h) H locs ls hR hS hl) (fun p => kf (by rwa [if_neg p] at h) H locs ls hR hS hl)
theorem v_tin (C : Gd X G cc own nL d ret mc ms) {dflt lo hi : Int} {offs : Array Int} {len : Nat} {x : Int32} {off : Int} {tgt : Nat} (hd : decode cc pc = .ok (.tableswitch dflt lo hi offs, len)) (h1 : ¬ x.toInt < lo) (h2 : ¬ hi < x.toInt) (ho : offs[(x.toInt - lo).toNat]? = some off) (ht : (pc : Int) + off = (tgt : Int)) (kk : V X G mc ms Q σ tgt lc st) : V X G mc ms Q σ pc lc (.int x :: st) := fun H locs ls hR hS hl => lv_tableIn C.1 C.2.1 hd h1 h2 ho ht (kk H locs ls hR hS hl)
theorem v_tout (C : Gd X G cc own nL d ret mc ms) {dflt lo hi : Int} {offs : Array Int} {len : Nat} {x : Int32} {tgt : Nat} (hd : decode cc pc = .ok (.tableswitch dflt lo hi offs, len)) (h : x.toInt < lo ∨ hi < x.toInt) (ht : (pc : Int) + dflt = (tgt : Int)) (kk : V X G mc ms Q σ tgt lc st) : V X G mc ms Q σ pc lc (.int x :: st) := fun H locs ls hR hS hl => lv_tableOut C.1 C.2.1 hd h ht (kk H locs ls hR hS hl)
theorem tne {x : Int32} {k : Int32} {a : Int} (h : ¬ x = k) (hk : k.toInt = a) : x.toInt ≠ a := fun e => h (Int32.toInt_inj.mp (e.trans hk.symm))
/-- a field that holds a number -/
theorem v_geti (C : Gd X G cc own nL d ret mc ms) {CC : String} {T : u_T} {N : Nat} (κ j l k f : Nat) {index : Nat} {fs : List Value} (hk : okt κ j l) (hc : clz[κ]? = some (CC, T, N)) (hin : ∀ w ∈ u_ws CC T N, w ∈ wsA) (hkn : k < N) (hlink : Cond.fieldLink own index CC (T k).2.1 (T k).2.2.1 ∈ wsA) (hT : (T k).1 = CC) (he : cE G σ κ j l = .inr (κ, fs)) (hv : fs[k]? = some (.int (σ.1 f j l))) (hd : decode cc pc = .ok (.getfield index, 3))
    (kk : V X G mc ms Q σ (pc + 3) lc (.int (σ.1 f j l) :: st)) : V X G mc ms Q σ pc lc (.ref (ad G κ j l) :: st) := fun H locs ls hR hS hl =>
  va_get (D := G.2.2.1) (ci := κ) C.1 C.2.1 C.2.2.2.2.1 hin C.2.2.2.1 C.2.2.2.2.2.1.1 hR.1 (off κ j l) (by rw [wl_get hk, he]) hc k hkn (C.2.2.2.2.1 _ hlink) (fun x h => by rw [hT] at h; exact h) hv hd (kk H locs ls hR hS hl)
/-- a field that holds a reference -/
theorem v_getr (C : Gd X G cc own nL d ret mc ms) {CC : String} {T : u_T} {N : Nat} (κ j l k a : Nat) {index : Nat} {fs : List Value} (hk : okt κ j l) (hc : clz[κ]? = some (CC, T, N)) (hin : ∀ w ∈ u_ws CC T N, w ∈ wsA) (hkn : k < N) (hlink : Cond.fieldLink own index CC (T k).2.1 (T k).2.2.1 ∈ wsA) (hT : (T k).1 = CC) (he : cE G σ κ j l = .inr (κ, fs)) (hv : fs[k]? = some (.ref a)) (hd : decode cc pc = .ok (.getfield index, 3))
    (kk : V X G mc ms Q σ (pc + 3) lc (.ref a :: st)) : V X G mc ms Q σ pc lc (.ref (ad G κ j l) :: st) := fun H locs ls hR hS hl =>
  va_get (D := G.2.2.1) (ci := κ) C.1 C.2.1 C.2.2.2.2.1 hin C.2.2.2.1 C.2.2.2.2.2.1.1 hR.1 (off κ j l) (by rw [wl_get hk, he]) hc k hkn (C.2.2.2.2.1 _ hlink) (fun x h => by rw [hT] at h; exact h) hv hd (kk H locs ls hR hS hl)
/-- a number is put into a field -/
theorem v_puti (C : Gd X G cc own nL d ret mc ms) {CC : String} {T : u_T} {N : Nat} (κ j l k f : Nat) {index : Nat} {fs : List Value} {v : Int32} {ty : FieldType} (ty0 : Nat → FieldType) (hk : okt κ j l) (hc : clz[κ]? = some (CC, T, N)) (hin : ∀ w ∈ u_ws CC T N, w ∈ wsA) (hty : ∀ k, k < N → parseFieldDescriptor (T k).2.2.1 = some (ty0 k)) (hnm : ∀ a, a < N → ∀ b, b < N → a ≠ b → (T a).2.1 ≠ (T b).2.1) (hkn : k < N) (hlink : Cond.fieldLink own index CC (T k).2.1 (T k).2.2.1 ∈ wsA) (hT : (T k).1 = CC) (hfin : (T k).2.2.2 = false) (hdsc : parseFieldDescriptor (T k).2.2.1 = some ty) (hn : narrow ty (.int v) = .int v) (hfit : fits ty (.int v) = true) (hκ : κ < 11) (hf : 16 * κ ≤ f ∧ f < 16 * κ + 16) (he : cE G σ κ j l = .inr (κ, fs)) (hl9 : k < fs.length) (he2 : .inr (κ, fs.set k (.int v)) = cE G (up σ f j l v) κ j l) (hd : decode cc pc = .ok (.putfield index, 3))
    (kk : V X G mc ms Q (up σ f j l v) (pc + 3) lc st) : V X G mc ms Q σ pc lc (.int v :: .ref (ad G κ j l) :: st) := fun H locs ls hR hS hl =>
  va_put (D := G.2.2.1) (ci := κ) C.1 C.2.1 C.2.2.2.2.1 hin ty0 hty hnm C.2.2.2.1 C.2.2.2.2.2.1.1 hR.1 wl_D hS (off κ j l) (by rw [wl_get hk, he]) hc k hkn (C.2.2.2.2.1 _ hlink) (fun x h => by rw [hT] at h; exact h) hfin hdsc hn hfit hl9 hd (fun H1 locs1 hP _ hS1 => kk H1 locs1 ls ⟨wl_put hk hκ hf he2 ▸ hP, hR.2⟩ hS1 hl)
/-- arrays of numbers -/
theorem upd_up {σ : Sto} {f j i : Nat} {v : Int32} : upd (σ.1 f j) i v = (up σ f j i v).1 f j := by
  funext k
  simp only [upd, up, true_and]
theorem v_iald (C : Gd X G cc own nL d ret mc ms) {R : Type} (κ j f n : Nat) {i : Int32} {A : Option R} {res : R} (hk : okt κ j 0) (he : cE G σ κ j 0 = ia G σ f j n) (hd : decode cc pc = .ok (.iaload, 1)) (h : (if inb i n then A else none) = some res)
    (kk : A = some res → V X G mc ms Q σ (pc + 1) lc (.int (σ.1 f j i.toNatClampNeg) :: st)) : V X G mc ms Q σ pc lc (.int i :: .ref (ad G κ j 0) :: st) := fun H locs ls hR hS hl =>
  va_iald C.1 C.2.1 C.2.2.2.2.2.1.1 hR.1 (off κ j 0) 0 (by rw [wl_get hk, he]; rfl) rfl (vp_in_iff.mpr (if_some h).1) hd (kk (if_some h).2 H locs ls hR hS hl)
theorem v_iast (C : Gd X G cc own nL d ret mc ms) {R : Type} (κ j f n : Nat) {i v : Int32} {A : Option R} {res : R} (hk : okt κ j 0) (hκ : 11 ≤ κ) (hf : f = 16 * κ) (he : ∀ τ : Sto, cE G τ κ j 0 = ia G τ f j n) (hd : decode cc pc = .ok (.iastore, 1)) (h : (if inb i n then A else none) = some res)
    (kk : A = some res → V X G mc ms Q (up σ f j i.toNatClampNeg v) (pc + 1) lc st) : V X G mc ms Q σ pc lc (.int v :: .int i :: .ref (ad G κ j 0) :: st) := fun H locs ls hR hS hl =>
  va_iast C.1 C.2.1 C.2.2.2.2.2.1.1 hR.1 wl_D hS (off κ j 0) 0 (by rw [wl_get hk, he]; rfl) rfl (vp_in_iff.mpr (if_some h).1) hd (fun H1 locs1 hP _ hS1 => kk (if_some h).2 H1 locs1 ls ⟨by rw [upd_up] at hP; rw [← wl_puta (i := i.toNatClampNeg) (v := v) hk hκ hf rfl, he]; exact hP, hR.2⟩ hS1 hl)
theorem v_cald (C : Gd X G cc own nL d ret mc ms) {R : Type} {i : Int32} {A : Option R} {res : R} (hd : decode cc pc = .ok (.caload, 1)) (h : (if inb i 60 then A else none) = some res)
    (kk : A = some res → V X G mc ms Q σ (pc + 1) lc (.int (σ.1 256 0 i.toNatClampNeg) :: st)) : V X G mc ms Q σ pc lc (.int i :: .ref (ad G 16 0 0) :: st) := fun H locs ls hR hS hl =>
  va_cald C.1 C.2.1 C.2.2.2.2.2.1.1 hR.1 (off 16 0 0) 1 (by rw [wl_get (by unfold okt; decide)]; rfl) rfl (vp_in_iff.mpr (if_some h).1) hd (kk (if_some h).2 H locs ls hR hS hl)
theorem v_cast (C : Gd X G cc own nL d ret mc ms) {R : Type} {i v : Int32} {A : Option R} {res : R} (hd : decode cc pc = .ok (.castore, 1)) (h : (if inb i 60 then A else none) = some res)
    (kk : A = some res → V X G mc ms Q (up σ 256 0 i.toNatClampNeg (vp_nar .char v)) (pc + 1) lc st) : V X G mc ms Q σ pc lc (.int v :: .int i :: .ref (ad G 16 0 0) :: st) := fun H locs ls hR hS hl =>
  va_cast C.1 C.2.1 C.2.2.2.2.2.1.1 hR.1 wl_D hS (off 16 0 0) 1 (by rw [wl_get (by unfold okt; decide)]; rfl) rfl (vp_in_iff.mpr (if_some h).1) hd (fun H1 locs1 hP _ hS1 => kk (if_some h).2 H1 locs1 ls ⟨by rw [upd_up] at hP; rw [← wl_puta (κ := 16) (j := 0) (i := i.toNatClampNeg) (v := vp_nar .char v) (by unfold okt; decide) (by decide) rfl rfl]; exact hP, hR.2⟩ hS1 hl)
/-- arrays of references: their rows stand -/
theorem v_aald (C : Gd X G cc own nL d ret mc ms) {R : Type} (κ j n t c : Nat) (g : Nat → Nat) {CN : String} {i : Int32} {A : Option R} {res : R} (hk : okt κ j 0) (ht : (tysG G)[t]? = some (G.2.2.2 c, .object CN)) (he : cE G σ κ j 0 = ra G c n g) (hd : decode cc pc = .ok (.aaload, 1)) (h : (if inb i n then A else none) = some res)
    (kk : A = some res → V X G mc ms Q σ (pc + 1) lc (.ref (g i.toNatClampNeg) :: st)) : V X G mc ms Q σ pc lc (.int i :: .ref (ad G κ j 0) :: st) := fun H locs ls hR hS hl =>
  va_aldq (f := fun i => some (g i)) C.1 C.2.1 C.2.2.2.2.2.1.1 hR.1 (off κ j 0) t (by rw [wl_get hk, he]; rfl) ht (vp_in_iff.mpr (if_some h).1) hd (kk (if_some h).2 H locs ls hR hS hl)
theorem up_upH {σ : Sto} {i m : Nat} : .inl (G.2.2.2 5, 4, .inr (.inr (.inr (.inr (va_up (fun i => some (ad G 5 (σ.2 i) 0)) i (some (ad G 5 m 0))))))) = cE G (upH σ i m) 15 0 0 := by
  have e : va_up (fun i => some (ad G 5 (σ.2 i) 0)) i (some (ad G 5 m 0)) = fun k => some (ad G 5 ((upH σ i m).2 k) 0) := by
    funext k
    simp only [va_up, upH]
    split <;> rfl
  rw [e]
  rfl
theorem v_aast (C : Gd X G cc own nL d ret mc ms) {R : Type} (m : Nat) {i : Int32} {A : Option R} {res : R} (hm : m < 7) (hd : decode cc pc = .ok (.aastore, 1)) (h : (if inb i 4 then A else none) = some res)
    (kk : A = some res → V X G mc ms Q (upH σ i.toNatClampNeg m) (pc + 1) lc st) : V X G mc ms Q σ pc lc (.ref (ad G 5 m 0) :: .int i :: .ref (ad G 15 0 0) :: st) := fun H locs ls hR hS hl =>
  va_astq (r := (RX5, TX5, 10)) C.1 C.2.1 C.2.2.2.2.2.1.1 hR.1 wl_D hS (off 15 0 0) 5 (off 5 m 0) 5 (by rw [wl_get (by unfold okt; decide)]; rfl) rfl (by rw [wl_get ⟨by decide, hm, by decide⟩]; rfl) rfl (vp_in_iff.mpr (if_some h).1) hd (fun H1 locs1 hP _ hS1 => kk (if_some h).2 H1 locs1 ls ⟨by rw [← wl_putH (i := i.toNatClampNeg) (m := m) rfl, ← up_upH]; exact hP, fun x => by show (if x = _ then m else σ.2 x) < 7; split; exact hm; exact hR.2 x⟩ hS1 hl)
theorem v_alen (C : Gd X G cc own nL d ret mc ms) (κ j n t c : Nat) {ty : FieldType} {x : vp_A} {v : Int32} (hk : okt κ j 0) (ht : (tysG G)[t]? = some (G.2.2.2 c, ty)) (he : cE G σ κ j 0 = .inl (G.2.2.2 c, x)) (hv : Int32.ofNat x.1 = v) (hd : decode cc pc = .ok (.arraylength, 1))
    (kk : V X G mc ms Q σ (pc + 1) lc (.int v :: st)) : V X G mc ms Q σ pc lc (.ref (ad G κ j 0) :: st) := fun H locs ls hR hS hl =>
  va_alen C.1 C.2.1 C.2.2.2.2.2.1.1 hR.1 (off κ j 0) t (by rw [wl_get hk, he]) ht hv hd (kk H locs ls hR hS hl)
/-- the fees -/
theorem v_fees (C : Gd X G cc own nL d ret mc ms) {index : Nat} (hlink : Cond.fieldLink own index "PeerNotes" "FEES" "[I" ∈ wsA) (hd : decode cc pc = .ok (.getstatic index, 3)) (kk : V X G mc ms Q σ (pc + 3) lc (.ref G.2.1 :: st)) : V X G mc ms Q σ pc lc st := fun H locs ls hR hS hl =>
  va_gets C.1 C.2.1 C.2.2.2.2.2.2.1.1 hS C.2.2.2.1 (C.2.2.2.2.1 _ hlink) (fun x h => h) hd (kk H locs ls hR hS hl)
theorem v_feesN (C : Gd X G cc own nL d ret mc ms) (ho : own = "PeerNotes$Market") (hd : decode cc pc = .ok (.getstatic 29, 3)) (kk : V X G mc ms Q σ (pc + 3) lc (.ref G.2.1 :: st)) : V X G mc ms Q σ pc lc st := fun H locs ls hR hS hl =>
  va_getsN (host := "PeerNotes") C.1 C.2.1 C.2.2.2.2.2.2.1.1 hS C.2.2.2.1 (by rw [ho]; exact va_Nw.use rfl C.2.2.2.2.2.1.2.1) (fun x h => h) hd (kk H locs ls hR hS hl)
theorem v_feeld (C : Gd X G cc own nL d ret mc ms) {R : Type} {i : Int32} {A : Option R} {res : R} (hd : decode cc pc = .ok (.iaload, 1)) (h : (if inb i 4 then A else none) = some res) (kk : A = some res → V X G mc ms Q σ (pc + 1) lc (.int (feeI i.toNatClampNeg) :: st)) : V X G mc ms Q σ pc lc (.int i :: .ref G.2.1 :: st) := fun H locs ls hR hS hl =>
  va_ti C.1 C.2.1 C.2.2.2.2.2.2.1.2 hS (vp_in_iff.mpr (if_some h).1) rfl hd (kk (if_some h).2 H locs ls hR hS hl)
theorem v_feelen (C : Gd X G cc own nL d ret mc ms) (hd : decode cc pc = .ok (.arraylength, 1)) (kk : V X G mc ms Q σ (pc + 1) lc (.int 4 :: st)) : V X G mc ms Q σ pc lc (.ref G.2.1 :: st) := fun H locs ls hR hS hl =>
  va_tlen C.1 C.2.1 C.2.2.2.2.2.2.1.2 hS rfl hd (kk H locs ls hR hS hl)

end V1
