/-! THE CONSTRUCTORS: the judgement Vb: the cells from the address b on are the row M -/
def cw (b : Nat) (M : List va_E) : va_W := M.mapIdx fun t e => (b + t, e)
theorem cw_len {b : Nat} {M : List va_E} : (cw b M).length = M.length := List.length_mapIdx
theorem cw_at {b t : Nat} {M : List va_E} : (cw b M)[t]? = (M[t]?).map fun e => (b + t, e) := List.getElem?_mapIdx
theorem cw_get {b t : Nat} {M : List va_E} {e : va_E} (h : M[t]? = some e) : (cw b M)[t]? = some (b + t, e) := by
  rw [cw_at, h]
  rfl
theorem cw_inv {b t : Nat} {M : List va_E} {q : Nat × va_E} (h : (cw b M)[t]? = some q) : ∃ e, M[t]? = some e ∧ q = (b + t, e) := by
  rw [cw_at] at h
  cases hM : M[t]? with
  | none => rw [hM] at h; cases h
  | some e => rw [hM] at h; exact ⟨e, rfl, (Option.some.inj h).symm⟩
theorem cw_D {b : Nat} {M : List va_E} : va_D (fun q => b ≤ q) (cw b M) := by
  refine ⟨fun i j p q hi hj e => ?_, fun k q hk => ?_⟩
  · obtain ⟨_, -, rfl⟩ := cw_inv hi
    obtain ⟨_, -, rfl⟩ := cw_inv hj
    exact Nat.add_left_cancel e
  · obtain ⟨_, -, rfl⟩ := cw_inv hk
    exact Nat.le_add_right _ _
theorem cw_set {b t : Nat} {M : List va_E} {e : va_E} : (cw b M).set t (b + t, e) = cw b (M.set t e) := by
  refine List.ext_getElem? fun k => ?_
  rw [List.getElem?_set, cw_at, cw_at, List.getElem?_set, cw_len]
  by_cases h : t = k
  · subst h
    rw [if_pos rfl, if_pos rfl]
    by_cases h2 : t < M.length
    · rw [if_pos h2, if_pos h2]; rfl
    · rw [if_neg h2, if_neg h2]; rfl
  · rw [if_neg h, if_neg h]
theorem cw_push {b : Nat} {M : List va_E} {e : va_E} : cw b M ++ [(b + M.length, e)] = cw b (M ++ [e]) := by
  refine List.ext_getElem? fun k => ?_
  rw [cw_at]
  rcases Nat.lt_trichotomy k M.length with h | h | h
  · rw [List.getElem?_append_left (by rw [cw_len]; exact h), List.getElem?_append_left h, cw_at]
  · subst h
    rw [List.getElem?_append_right (by rw [cw_len]; exact Nat.le_refl _), List.getElem?_append_right (Nat.le_refl _), cw_len, Nat.sub_self]
    rfl
  · rw [List.getElem?_eq_none (by rw [List.length_append, cw_len]; exact h), List.getElem?_eq_none (by rw [List.length_append]; exact h)]
    rfl
def Rb (G : Gm) (b : Nat) (M : List va_E) (H : Heap) : Prop := va_P G.2.2.1 clz (cw b M) H
theorem Rb.at {G : Gm} {b t : Nat} {M : List va_E} {H : Heap} {e : va_E} (h : Rb G b M H) (ht : M[t]? = some e) : va_at G.2.2.1 clz (b + t, e) H := h t _ (cw_get ht)
theorem Rb.mk {G : Gm} {b : Nat} {M : List va_E} {H : Heap} (h : ∀ (t : Nat) (e : va_E), M[t]? = some e → va_at G.2.2.1 clz (b + t, e) H) : Rb G b M H := fun k q hk => by
  obtain ⟨e, he, rfl⟩ := cw_inv hk
  exact h k e he
theorem Rb.size {G : Gm} {b : Nat} {M : List va_E} {H : Heap} (h : Rb G b M H) (hb : b ≤ H.size) : b + M.length ≤ H.size := by
  rcases Nat.eq_zero_or_pos M.length with e | e
  · omega
  · have h1 : b + (M.length - 1) < H.size := (h.at (List.getElem?_eq_getElem (i := M.length - 1) (by omega))).lt
    omega
theorem Rb.app {G : Gm} {b : Nat} {M N : List va_E} {H : Heap} (h1 : Rb G b M H) (h2 : Rb G (b + M.length) N H) : Rb G b (M ++ N) H := Rb.mk fun t e he => by
  by_cases hl : t < M.length
  · rw [List.getElem?_append_left hl] at he
    exact h1.at he
  · rw [List.getElem?_append_right (by omega)] at he
    have := h2.at he
    rwa [show b + M.length + (t - M.length) = b + t by omega] at this
theorem Rb.left {G : Gm} {b : Nat} {M N : List va_E} {H : Heap} (h : Rb G b (M ++ N) H) : Rb G b M H := Rb.mk fun t e he => h.at (by rw [List.getElem?_append_left (List.getElem?_eq_some_iff.mp he).1]; exact he)
theorem Rb.right {G : Gm} {b : Nat} {M N : List va_E} {H : Heap} (h : Rb G b (M ++ N) H) : Rb G (b + M.length) N H := Rb.mk fun t e he => by
  have := h.at (t := M.length + t) (e := e) (by rw [List.getElem?_append_right (by omega), show M.length + t - M.length = t by omega]; exact he)
  rwa [show b + (M.length + t) = b + M.length + t by omega] at this
theorem Rb.kept {G : Gm} {b : Nat} {M : List va_E} {H H1 : Heap} (h : Rb G b M H) (hq : ∀ q, b ≤ q → q < b + M.length → H1[q]? = H[q]?) : Rb G b M H1 := Rb.mk fun t e he => (h.at he).kept (hq _ (Nat.le_add_right _ _) (Nat.add_lt_add_left (List.getElem?_eq_some_iff.mp he).1 _))
theorem newAt {D : va_G} {b q : Nat} {M : List va_E} {e : va_E} {H1 : Heap} (hP : va_P D clz (cw b M ++ [(q, e)]) H1) (hD : va_D (fun q => b ≤ q) (cw b M ++ [(q, e)])) (hu : H1.size ≤ b + M.length + 1) : q = b + M.length := by
  have hlast : (cw b M ++ [(q, e)])[M.length]? = some (q, e) := by
    rw [List.getElem?_append_right (by rw [cw_len]; exact Nat.le_refl _), cw_len, Nat.sub_self]
    rfl
  have h1 : q < H1.size := (hP _ _ hlast).lt
  have h2 : b ≤ q := hD.2 _ _ hlast
  rcases Nat.lt_or_ge q (b + M.length) with h | h
  · exfalso
    have ht : q - b < M.length := by omega
    have h3 : (cw b M ++ [(q, e)])[q - b]? = some (b + (q - b), M[q - b]) := by
      rw [List.getElem?_append_left (by rw [cw_len]; exact ht)]
      exact cw_get (List.getElem?_eq_getElem ht)
    have h4 := hD.1 _ _ _ _ h3 hlast (by show b + (q - b) = q; omega)
    omega
  · omega
/-! which arrays may be made -/
def OA (U : State) : Prop := va_AO RX0 U ∧ va_AO RX3 U ∧ va_AO RX4 U ∧ va_AO RX5 U ∧ va_AO RX6 U
theorem OA.moved {u U : State} (h : u.vm.Alike U.vm) (o : OA u) : OA U := ⟨o.1.moved h, o.2.1.moved h, o.2.2.1.moved h, o.2.2.2.1.moved h, o.2.2.2.2.moved h⟩
theorem raEq {U : State} {c1 c2 : ClassId} {ty : FieldType} (h1 : va_RA U c1 ty) (h2 : va_RA U c2 ty) : c1 = c2 := by
  cases ty with
  | object C =>
    obtain ⟨_, _, _, _, _, a⟩ := h1
    obtain ⟨_, _, _, _, _, b⟩ := h2
    exact Option.some.inj (a.symm.trans b)
  | _ => exact Option.some.inj (Eq.trans (Eq.symm h1) h2)
/-! contracts of constructors -/
def Wc (G : Gm) (b : Nat) (M : List va_E) (U : State) : Prop := (U.heap.size = b + M.length ∧ Rb G b M U.heap) ∧ G.1 ≤ b ∧ Wt G U ∧ Wf G U U.heap ∧ OA U
theorem Wc.blind {G : Gm} {b : Nat} {M : List va_E} {U : State} (g : JFrame) (mk : MethodId) (a : Array Value) (h : Wc G b M U) : Wc G b M (U.calling g mk a) :=
  ⟨h.1, h.2.1, ⟨va_K.moved (u := U) (U := U.calling g mk a) (Vm.Alike.refl U.vm) h.2.2.1.1, h.2.2.1.2.same rfl⟩, h.2.2.2.1.alike (U := U.calling g mk a) (Vm.Alike.refl U.vm), h.2.2.2.2.moved (u := U) (U := U.calling g mk a) (Vm.Alike.refl U.vm)⟩
theorem blindK {G : Gm} {b : Nat} {M : List va_E} {av : List Value} : FrameBlind (va_Pc av (Wc G b M)) := fun a U g mk q => ⟨q.1, Wc.blind g mk a q.2⟩
def rmk (d mc ms : Nat) : Room := { frames := d, cells := mc, slots := ms, locals := 41 * d }
def Qk (G : Gm) (b : Nat) (L : List va_E) : Array Value → State → Outcome → State → Prop := fun _ st oc t => (oc = .returned none ∧ Rb G b L t.heap) ∧ va_F (fun q => b ≤ q) st t
/-- the contract: a fresh object e0 at b, the heap's last cell, becomes F b, cells from b on; mc cells and ms slots are made -/
def Clk (G : Gm) (d mc ms : Nat) (y : Ym) (e0 : va_E) (F : Nat → List va_E) : Prop := ∀ (l : Launch) (b : Nat), Met l y.1 (wsY y) (rmk d mc ms) (va_Pc [.ref b] (Wc G b [e0])) (Qk G b (F b)) mc ms (fun q => b ≤ q)
def Vb (X : Cx) (G : Gm) (Q : State → Prop) (b : Nat) (M : List va_E) (c n pc : Nat) (lc : List (Option Value)) (st : List Value) : Prop :=
  ∀ (H : Heap) (locs : List Loc) (ls : Array Slot), Rb G b M H → va_S (fun q => b ≤ q) (cxS X).heap H locs → lcok ls lc → WX X H locs c n Q (F0 (cxM X) pc ls st)
def Gb (X : Cx) (G : Gm) (cc : ByteArray) (own : String) (nL d : Nat) (ret : Option FieldType) (mc ms b : Nat) : Prop := Gd X G cc own nL d ret mc ms ∧ OA (cxS X) ∧ G.1 ≤ b ∧ b ≤ (cxS X).heap.size
def QB (X : Cx) (G : Gm) (b : Nat) (L : List va_E) (mc ms : Nat) : State → Prop := MQ X.2.2.2.2.2.2.2.1 (Qk G b L) (cxA X) (cxS X) mc ms (fun q => b ≤ q)
theorem W_up (X : Cx) {H : Heap} {locs : List Loc} {c n : Nat} {Q : State → Prop} {g : JFrame} (kk : H.size ≤ (cxS X).heap.size + c → WX X H locs c n Q g) : WX X H locs c n Q g := fun T hT Y => kk (hT ▸ Y.heapSize) T hT Y
theorem Clk.mk {G : Gm} {d mc ms nL : Nat} {y : Ym} {e0 : va_E} {F : Nat → List va_E} {cc : ByteArray} {own : String} (e1 : y.2.1 = cc) (e2 : y.1.cls = own) (e3 : y.2.2.1 = nL) (e4 : y.2.2.2 = none) (hy : plainName y.1.cls = true) (hnm : y.1.name = "<init>") (hn : 1 ≤ nL)
    (h : ∀ (X : Cx) (b : Nat), Gb X G cc own nL d none mc ms b → (cxN X).name = "<init>" → (cxS X).heap.size = b + 1 → Vb X G (QB X G b (F b) mc ms) b [e0] 0 0 0 (ent [.ref b] nL) []) : Clk G d mc ms y e0 F := by
  subst e1; subst e2; subst e3
  intro l b
  refine Met.ofW (cc := y.2.1) (maxL := y.2.2.1) (ret := y.2.2.2) hy rfl ?_
  intro p e s m args below meth c s₁ B hml hv
  obtain ⟨rfl, ⟨hsz, hR⟩, hb, hT, hF, hO⟩ := hv
  have hts := atoms_spec (ws := wsY y) B.pre
  have hown : s.vm.findClass y.1.cls = some m.cls := findClass_of_methodNamed B.named
  have hin : meth.name = "<init>" := (name_of_methodNamed B.named B.method).1.trans hnm
  have h1 := h (p, l, e, (headSpec (wsY y) (rmk d mc ms)).room, s, m, ([.ref b] : List Value).toArray, below, meth, c) b ⟨⟨B.exec, B.bytes, hml, hown, fun w hw => hts w (List.mem_cons_of_mem _ hw), hT, hF, Nat.le_refl _, Nat.le_refl _, Nat.le_refl _, Nat.le_refl _, e4 ▸ B.returns, B.notSynchronized⟩, hO, hb, by show b ≤ s.heap.size; rw [hsz]; exact Nat.le_add_right _ _⟩ hin hsz
  rw [lg_entry_eq]
  exact h1 s.heap [] _ hR va_S.rf (lcok_ent (by simp [Value.category]) hn)
section VB
variable {X : Cx} {G : Gm} {mc ms : Nat} {Q : State → Prop} {b c n pc : Nat} {M M' : List va_E} {lc : List (Option Value)} {st : List Value} {cc : ByteArray} {own : String} {nL d : Nat} {ret : Option FieldType}
theorem kb_iconst (C : Gb X G cc own nL d ret mc ms b) {i : Int} {v : Int32} (hd : decode cc pc = .ok (.iconst i, 1)) (hv : Int32.ofInt i = v) (kk : Vb X G Q b M c n (pc + 1) lc (.int v :: st)) : Vb X G Q b M c n pc lc st := fun H locs ls hR hS hl => lv_iconst C.1.1 C.1.2.1 hd hv (kk H locs ls hR hS hl)
theorem kb_bipush (C : Gb X G cc own nL d ret mc ms b) {i : Int} {v : Int32} (hd : decode cc pc = .ok (.bipush i, 2)) (hv : (Int8.ofInt i).toInt32 = v) (kk : Vb X G Q b M c n (pc + 2) lc (.int v :: st)) : Vb X G Q b M c n pc lc st := fun H locs ls hR hS hl => lv_bipush C.1.1 C.1.2.1 hd hv (kk H locs ls hR hS hl)
theorem kb_sipush (C : Gb X G cc own nL d ret mc ms b) {i : Int} {v : Int32} (hd : decode cc pc = .ok (.sipush i, 3)) (hv : (Int16.ofInt i).toInt32 = v) (kk : Vb X G Q b M c n (pc + 3) lc (.int v :: st)) : Vb X G Q b M c n pc lc st := fun H locs ls hR hS hl => lv_sipush C.1.1 C.1.2.1 hd hv (kk H locs ls hR hS hl)
theorem kb_aload_n (C : Gb X G cc own nL d ret mc ms b) {k : Fin 4} {i x : Nat} (hd : decode cc pc = .ok (.aload_n k, 1)) (hi : (k : Nat) = i) (hl : lc[i]? = some (some (.ref x))) (kk : Vb X G Q b M c n (pc + 1) lc (.ref x :: st)) : Vb X G Q b M c n pc lc st := fun H locs ls hR hS h => lv_aload_n C.1.1 C.1.2.1 hd hi (lcok_at h hl) (kk H locs ls hR hS h)
theorem kb_iload_n (C : Gb X G cc own nL d ret mc ms b) {k : Fin 4} {i : Nat} {x : Int32} (hd : decode cc pc = .ok (.iload_n k, 1)) (hi : (k : Nat) = i) (hl : lc[i]? = some (some (.int x))) (kk : Vb X G Q b M c n (pc + 1) lc (.int x :: st)) : Vb X G Q b M c n pc lc st := fun H locs ls hR hS h => lv_iload_n C.1.1 C.1.2.1 hd hi (lcok_at h hl) (kk H locs ls hR hS h)
theorem kb_istore_n (C : Gb X G cc own nL d ret mc ms b) {k : Fin 4} {i : Nat} {x : Int32} {lc1 : List (Option Value)} (hd : decode cc pc = .ok (.istore_n k, 1)) (hi : (k : Nat) = i) (hlt : i < lc.length) (e : stv lc i (.int x) = lc1) (kk : Vb X G Q b M c n (pc + 1) lc1 st) : Vb X G Q b M c n pc lc (.int x :: st) := fun H locs ls hR hS h => lv_istore_n C.1.1 C.1.2.1 hd hi h hlt rfl (fun ls1 h1 => kk H locs ls1 hR hS (e ▸ lcok_stv (ls := ls) hlt h1))
theorem kb_astore_n (C : Gb X G cc own nL d ret mc ms b) {k : Fin 4} {i x : Nat} {lc1 : List (Option Value)} (hd : decode cc pc = .ok (.astore_n k, 1)) (hi : (k : Nat) = i) (hlt : i < lc.length) (e : stv lc i (.ref x) = lc1) (kk : Vb X G Q b M c n (pc + 1) lc1 st) : Vb X G Q b M c n pc lc (.ref x :: st) := fun H locs ls hR hS h => lv_astore_n C.1.1 C.1.2.1 hd hi h hlt rfl (fun ls1 h1 => kk H locs ls1 hR hS (e ▸ lcok_stv (ls := ls) hlt h1))
theorem kb_astore (C : Gb X G cc own nL d ret mc ms b) {i x : Nat} {lc1 : List (Option Value)} (hd : decode cc pc = .ok (.astore i, 2)) (hlt : i < lc.length) (e : stv lc i (.ref x) = lc1) (kk : Vb X G Q b M c n (pc + 2) lc1 st) : Vb X G Q b M c n pc lc (.ref x :: st) := fun H locs ls hR hS h => lv_astore C.1.1 C.1.2.1 hd h hlt rfl (fun ls1 h1 => kk H locs ls1 hR hS (e ▸ lcok_stv (ls := ls) hlt h1))
theorem kb_iinc (C : Gb X G cc own nL d ret mc ms b) {i : Nat} {z : Int} {x v : Int32} {lc1 : List (Option Value)} (hd : decode cc pc = .ok (.iinc i z, 3)) (hl : lc[i]? = some (some (.int x))) (hv : x + Int32.ofInt z = v) (e : stv lc i (.int v) = lc1) (kk : Vb X G Q b M c n (pc + 3) lc1 st) : Vb X G Q b M c n pc lc st := by
  intro H locs ls hR hS h
  obtain ⟨k, hk⟩ := List.getElem?_of_mem ((asc_mem lc 0 i _).mpr ⟨Nat.zero_le _, hl⟩)
  have hlt : i < lc.length := (List.getElem?_eq_some_iff.mp hl).1
  exact lv_iinc C.1.1 C.1.2.1 hd h hk hv hlt rfl (fun ls1 h1 => kk H locs ls1 hR hS (e ▸ lcok_stv (ls := ls) hlt h1))
theorem kb_goto (C : Gb X G cc own nL d ret mc ms b) {off : Int} {tgt : Nat} (hd : decode cc pc = .ok (.goto off, 3)) (ht : (pc : Int) + off = (tgt : Int)) (kk : Vb X G Q b M c n tgt lc st) : Vb X G Q b M c n pc lc st := fun H locs ls hR hS hl => lv_goto C.1.1 C.1.2.1 hd ht (kk H locs ls hR hS hl)
theorem kb_dup (C : Gb X G cc own nL d ret mc ms b) {a : Nat} (hd : decode cc pc = .ok (.dup, 1)) (kk : Vb X G Q b M c n (pc + 1) lc (.ref a :: .ref a :: st)) : Vb X G Q b M c n pc lc (.ref a :: st) := fun H locs ls hR hS hl => lv_dup C.1.1 C.1.2.1 hd rfl (kk H locs ls hR hS hl)
theorem kb_icmp_ge (C : Gb X G cc own nL d ret mc ms b) {x y : Int32} {off : Int} {tgt : Nat} (hd : decode cc pc = .ok (.if_icmp .ge off, 3)) (ht : (pc : Int) + off = (tgt : Int)) (kt : y ≤ x → Vb X G Q b M c n tgt lc st) (kf : ¬ y ≤ x → Vb X G Q b M c n (pc + 3) lc st) : Vb X G Q b M c n pc lc (.int y :: .int x :: st) := fun H locs ls hR hS hl => lv_icmp_ge C.1.1 C.1.2.1 hd ht (fun p => kt p H locs ls hR hS hl) (fun p => kf p H locs ls hR hS hl)
theorem kb_obj (C : Gb X G cc own nL d ret mc ms b) {index a : Nat} (hlink : Cond.methodLink own index objectInit ∈ wsA) (hinst : Cond.instanceMethod objectInit ∈ wsA) (hcode : Cond.code objectInit ⟨#[0xb1]⟩ 1 none ∈ wsA) (hlc : lc.length = nL) (hd1 : 1 ≤ d) (hcat : (st.map fun v => v.category).sum ≤ 8) (hd : decode cc pc = .ok (.invokespecial index, 3)) (kk : Vb X G Q b M c n (pc + 3) lc st) : Vb X G Q b M c n pc lc (.ref a :: st) := fun H locs ls hR hS hl =>
  W.objInit C.1.1 C.1.2.1 C.1.2.2.2.1 (C.1.2.2.2.2.1 _ hlink) (C.1.2.2.2.2.1 _ hinst) (C.1.2.2.2.2.1 _ hcode) rfl (by rw [C.1.2.2.1]; exact hl.1.trans hlc) rfl hd (Nat.le_trans hd1 C.1.2.2.2.2.2.2.2.1)
    (by have h1 := lv_room (m := cxM X) (pc := pc) (ls := ls) (rest := .ref a :: st) hcat
        have h2 : 41 * d ≤ X.2.2.2.1.locals := C.1.2.2.2.2.2.2.2.2.1
        omega) (W.eq (g2 := F0 (cxM X) (pc + 3) ls st) rfl (kk H locs ls hR hS hl))
theorem kb_new (C : Gb X G cc own nL d ret mc ms b) (κ : Nat) {N index : Nat} {CC : String} {T : u_T} {fs : List Value} (ty0 : Nat → FieldType) (t : Nat) (hc : clz[κ]? = some (CC, T, N)) (hin : ∀ w ∈ u_ws CC T N, w ∈ wsA) (hty : ∀ k, k < N → parseFieldDescriptor (T k).2.2.1 = some (ty0 k)) (hcl : Cond.classLink own index CC ∈ wsA) (hinst : Cond.instantiable CC N ∈ wsA) (hini : Cond.initialized CC ∈ wsA) (hfs : ∀ j, j < N → defaultValue (ty0 j) = vp_V fs j) (ht : M.length = t) (hz : (cxS X).heap.size + c = b + t) (h1 : c + 1 ≤ mc) (h2 : n + N ≤ ms) (hd : decode cc pc = .ok (.new index, 3)) (hM : M ++ [.inr (κ, fs)] = M') (kk : Vb X G Q b M' (c + 1) (n + N) (pc + 3) lc (.ref (b + t) :: st)) : Vb X G Q b M c n pc lc st := by
  intro H locs ls hR hS hl
  subst ht
  refine va_new (D := G.2.2.1) (ci := κ) (cl := clz) C.1.1 C.1.2.1 C.1.2.2.2.2.1 hin ty0 hty C.1.2.2.2.1 (C.1.2.2.2.2.1 _ hcl) (C.1.2.2.2.2.1 _ hinst) (C.1.2.2.2.2.1 _ hini) C.1.2.2.2.2.2.1.1 hR cw_D hS (fun q h => Nat.le_trans C.2.2.2 h) hc hfs (Nat.le_trans h1 C.1.2.2.2.2.2.2.2.2.2.1) (Nat.le_trans h2 C.1.2.2.2.2.2.2.2.2.2.2.1) hd fun q H1 hP hD hS1 => W_up X fun hu => ?_
  have e : q = b + M.length := newAt hP hD (by omega)
  subst e
  rw [cw_push, hM] at hP
  exact kk H1 locs ls hP hS1 hl
theorem kb_newa (C : Gb X G cc own nL d ret mc ms b) (i N t : Nat) {atype : ArrayType} {ty : FieldType} (hty : newarray.typeOf atype = ty) (harr : Cond.arrayClass (newarray.typeOf atype) ∈ wsA) (hi : (tysG G)[i]? = some (G.2.2.2 i, ty)) (hdef : defaultValue ty = .int 0) (hN : N < 2 ^ 31) (hbytes : N * componentBytes ty ≤ 536870912) (ht : M.length = t) (hz : (cxS X).heap.size + c = b + t) (h1 : c + 1 ≤ mc) (h2 : n + N ≤ ms) (hd : decode cc pc = .ok (.newarray atype, 2)) (hM : M ++ [.inl (G.2.2.2 i, N, .inl fun _ => 0)] = M') (kk : Vb X G Q b M' (c + 1) (n + N) (pc + 2) lc (.ref (b + t) :: st)) : Vb X G Q b M c n pc lc (.int (nI N) :: st) := by
  intro H locs ls hR hS hl
  subst ht
  refine va_newa (D := G.2.2.1) (cl := clz) (tys := tysG G) C.1.1 C.1.2.1 (C.1.2.2.2.2.1 _ harr) hty C.1.2.2.2.2.2.1.1 hR cw_D hS (fun q h => Nat.le_trans C.2.2.2 h) (N' := N) (a0 := (N, .inl fun _ => 0)) (fun cA => by rw [vp_cell_i, hdef]) (nI_pos hN) (nI_clamp hN) hbytes (Nat.le_trans h1 C.1.2.2.2.2.2.2.2.2.2.1) (Nat.le_trans h2 C.1.2.2.2.2.2.2.2.2.2.2.1) hd fun q cA H1 hK1 hP hD hS1 => W_up X fun hu => ?_
  have e : q = b + M.length := newAt hP hD (by omega)
  subst e
  have e2 : cA = G.2.2.2 i := raEq (hK1.2 7 _ rfl).2 (C.1.2.2.2.2.2.1.1.2 i _ hi).2
  subst e2
  rw [cw_push, hM] at hP
  exact kk H1 locs ls hP hS1 hl
theorem kb_anew (C : Gb X G cc own nL d ret mc ms b) (i N t : Nat) {index : Nat} {CC : String} (hcl : Cond.classLink own index CC ∈ wsA) (hO : va_AO CC (cxS X)) (hi : (tysG G)[i]? = some (G.2.2.2 i, .object CC)) (hN : N < 2 ^ 31) (hbytes : N * 4 ≤ 536870912) (ht : M.length = t) (hz : (cxS X).heap.size + c = b + t) (h1 : c + 1 ≤ mc) (h2 : n + N ≤ ms) (hd : decode cc pc = .ok (.anewarray index, 3)) (hM : M ++ [.inl (G.2.2.2 i, N, .inr (.inr (.inr (.inr fun _ => none))))] = M') (kk : Vb X G Q b M' (c + 1) (n + N) (pc + 3) lc (.ref (b + t) :: st)) : Vb X G Q b M c n pc lc (.int (nI N) :: st) := by
  intro H locs ls hR hS hl
  subst ht
  refine va_newq (D := G.2.2.1) (cl := clz) (tys := tysG G) C.1.1 C.1.2.1 C.1.2.2.2.1 (C.1.2.2.2.2.1 _ hcl) hO C.1.2.2.2.2.2.1.1 hR cw_D hS (fun q h => Nat.le_trans C.2.2.2 h) (N' := N) (nI_pos hN) (nI_clamp hN) hbytes (Nat.le_trans h1 C.1.2.2.2.2.2.2.2.2.2.1) (Nat.le_trans h2 C.1.2.2.2.2.2.2.2.2.2.2.1) hd fun q cA H1 hK1 hP hD hS1 => W_up X fun hu => ?_
  have e : q = b + M.length := newAt hP hD (by omega)
  subst e
  have e2 : cA = G.2.2.2 i := raEq (hK1.2 7 _ rfl).2 (C.1.2.2.2.2.2.1.1.2 i _ hi).2
  subst e2
  rw [cw_push, hM] at hP
  exact kk H1 locs ls hP hS1 hl
theorem kb_putF (C : Gb X G cc own nL d ret mc ms b) (hname : (cxN X).name = "<init>") (κ t k : Nat) {N index : Nat} {CC : String} {T : u_T} {fs : List Value} {v : Value} {ty : FieldType} (ty0 : Nat → FieldType) (hc : clz[κ]? = some (CC, T, N)) (hin : ∀ w ∈ u_ws CC T N, w ∈ wsA) (hty : ∀ k, k < N → parseFieldDescriptor (T k).2.2.1 = some (ty0 k)) (hnm : ∀ a, a < N → ∀ b, b < N → a ≠ b → (T a).2.1 ≠ (T b).2.1) (hkn : k < N) (hlink : Cond.fieldLink own index CC (T k).2.1 (T k).2.2.1 ∈ wsA) (hT : (T k).1 = CC) (hT2 : (T k).1 = own) (hfin : (T k).2.2.2 = true) (hdsc : parseFieldDescriptor (T k).2.2.1 = some ty) (hn : narrow ty v = v) (hfit : fits ty v = true) (he : M[t]? = some (.inr (κ, fs))) (hl9 : k < fs.length) (hd : decode cc pc = .ok (.putfield index, 3)) (hM : M.set t (.inr (κ, fs.set k v)) = M') (kk : Vb X G Q b M' c n (pc + 3) lc st) : Vb X G Q b M c n pc lc (v :: .ref (b + t) :: st) := fun H locs ls hR hS hl =>
  va_putF (D := G.2.2.1) (ci := κ) (cl := clz) C.1.1 C.1.2.1 C.1.2.2.2.2.1 hin ty0 hty hnm C.1.2.2.2.1 C.1.2.2.2.2.2.1.1 hR cw_D hS t (cw_get he) hc k hkn (C.1.2.2.2.2.1 _ hlink) (fun x h => by rw [hT] at h; exact h) hfin hname hT2 hdsc hn hfit hl9 hd (fun H1 locs1 hP _ hS1 => kk H1 locs1 ls (by rw [cw_set, hM] at hP; exact hP) hS1 hl)
theorem kb_put (C : Gb X G cc own nL d ret mc ms b) (κ t k : Nat) {N index : Nat} {CC : String} {T : u_T} {fs : List Value} {v : Value} {ty : FieldType} (ty0 : Nat → FieldType) (hc : clz[κ]? = some (CC, T, N)) (hin : ∀ w ∈ u_ws CC T N, w ∈ wsA) (hty : ∀ k, k < N → parseFieldDescriptor (T k).2.2.1 = some (ty0 k)) (hnm : ∀ a, a < N → ∀ b, b < N → a ≠ b → (T a).2.1 ≠ (T b).2.1) (hkn : k < N) (hlink : Cond.fieldLink own index CC (T k).2.1 (T k).2.2.1 ∈ wsA) (hT : (T k).1 = CC) (hfin : (T k).2.2.2 = false) (hdsc : parseFieldDescriptor (T k).2.2.1 = some ty) (hn : narrow ty v = v) (hfit : fits ty v = true) (he : M[t]? = some (.inr (κ, fs))) (hl9 : k < fs.length) (hd : decode cc pc = .ok (.putfield index, 3)) (hM : M.set t (.inr (κ, fs.set k v)) = M') (kk : Vb X G Q b M' c n (pc + 3) lc st) : Vb X G Q b M c n pc lc (v :: .ref (b + t) :: st) := fun H locs ls hR hS hl =>
  va_put (D := G.2.2.1) (ci := κ) (cl := clz) C.1.1 C.1.2.1 C.1.2.2.2.2.1 hin ty0 hty hnm C.1.2.2.2.1 C.1.2.2.2.2.2.1.1 hR cw_D hS t (cw_get he) hc k hkn (C.1.2.2.2.2.1 _ hlink) (fun x h => by rw [hT] at h; exact h) hfin hdsc hn hfit hl9 hd (fun H1 locs1 hP _ hS1 => kk H1 locs1 ls (by rw [cw_set, hM] at hP; exact hP) hS1 hl)
theorem kb_get (C : Gb X G cc own nL d ret mc ms b) (κ t k : Nat) {N index a : Nat} {CC : String} {T : u_T} {fs : List Value} (hc : clz[κ]? = some (CC, T, N)) (hin : ∀ w ∈ u_ws CC T N, w ∈ wsA) (hkn : k < N) (hlink : Cond.fieldLink own index CC (T k).2.1 (T k).2.2.1 ∈ wsA) (hT : (T k).1 = CC) (he : M[t]? = some (.inr (κ, fs))) (hv : fs[k]? = some (.ref a)) (hd : decode cc pc = .ok (.getfield index, 3)) (kk : Vb X G Q b M c n (pc + 3) lc (.ref a :: st)) : Vb X G Q b M c n pc lc (.ref (b + t) :: st) := fun H locs ls hR hS hl =>
  va_get (D := G.2.2.1) (ci := κ) (cl := clz) C.1.1 C.1.2.1 C.1.2.2.2.2.1 hin C.1.2.2.2.1 C.1.2.2.2.2.2.1.1 hR t (cw_get he) hc k hkn (C.1.2.2.2.2.1 _ hlink) (fun x h => by rw [hT] at h; exact h) hv hd (kk H locs ls hR hS hl)
theorem kb_alen (C : Gb X G cc own nL d ret mc ms b) (t i : Nat) {ty : FieldType} {x : vp_A} (hi : (tysG G)[i]? = some (G.2.2.2 i, ty)) (he : M[t]? = some (.inl (G.2.2.2 i, x))) (hd : decode cc pc = .ok (.arraylength, 1)) (kk : Vb X G Q b M c n (pc + 1) lc (.int (nI x.1) :: st)) : Vb X G Q b M c n pc lc (.ref (b + t) :: st) := fun H locs ls hR hS hl =>
  va_alen (D := G.2.2.1) (cl := clz) C.1.1 C.1.2.1 C.1.2.2.2.2.2.1.1 hR t i (cw_get he) hi rfl hd (kk H locs ls hR hS hl)
theorem kb_aast (C : Gb X G cc own nL d ret mc ms b) (t u κ i k N : Nat) {r : vw_C} {fs : List Value} {f : Nat → Option Nat} (hi : (tysG G)[i]? = some (G.2.2.2 i, .object r.1)) (he : M[t]? = some (.inl (G.2.2.2 i, N, .inr (.inr (.inr (.inr f)))))) (hu : M[u]? = some (.inr (κ, fs))) (hc : clz[κ]? = some r) (hk : k < N) (hN : N < 2 ^ 31) (hd : decode cc pc = .ok (.aastore, 1)) (hM : M.set t (.inl (G.2.2.2 i, N, .inr (.inr (.inr (.inr (va_up f k (some (b + u)))))))) = M') (kk : Vb X G Q b M' c n (pc + 1) lc st) : Vb X G Q b M c n pc lc (.ref (b + u) :: .int (nI k) :: .ref (b + t) :: st) := fun H locs ls hR hS hl =>
  va_astq (D := G.2.2.1) (cl := clz) (r := r) C.1.1 C.1.2.1 C.1.2.2.2.2.2.1.1 hR cw_D hS t i u κ (cw_get he) hi (cw_get hu) hc (nI_in hk hN) hd (fun H1 locs1 hP _ hS1 => kk H1 locs1 ls (by rw [nI_clamp (Nat.lt_trans hk hN), cw_set, hM] at hP; exact hP) hS1 hl)
theorem kb_iast (C : Gb X G cc own nL d ret mc ms b) (t k N : Nat) {v : Int32} {f : Nat → Int32} (he : M[t]? = some (.inl (G.2.2.2 0, N, .inl f))) (hk : k < N) (hN : N < 2 ^ 31) (hd : decode cc pc = .ok (.iastore, 1)) (hM : M.set t (.inl (G.2.2.2 0, N, .inl (upd f k v))) = M') (kk : Vb X G Q b M' c n (pc + 1) lc st) : Vb X G Q b M c n pc lc (.int v :: .int (nI k) :: .ref (b + t) :: st) := fun H locs ls hR hS hl =>
  va_iast (D := G.2.2.1) (cl := clz) C.1.1 C.1.2.1 C.1.2.2.2.2.2.1.1 hR cw_D hS t 0 (cw_get he) rfl (nI_in hk hN) hd (fun H1 locs1 hP _ hS1 => kk H1 locs1 ls (by rw [nI_clamp (Nat.lt_trans hk hN), cw_set, hM] at hP; exact hP) hS1 hl)
theorem kb_wide (C : Gb X G cc own nL d ret mc ms b) {H : Heap} {locs : List Loc} (hS : va_S (fun q => b ≤ q) (cxS X).heap H locs) : va_S (AG G) (cxS X).heap H locs := ⟨hS.1, fun q h1 h2 => hS.2.1 q h1 (fun h => h2 (Nat.le_trans C.2.2.1 h)), fun q hq => Nat.le_trans C.2.2.1 (hS.2.2 q hq)⟩
theorem kb_fees (C : Gb X G cc own nL d ret mc ms b) (ho : own = "PeerNotes$Market") (hd : decode cc pc = .ok (.getstatic 29, 3)) (kk : Vb X G Q b M c n (pc + 3) lc (.ref G.2.1 :: st)) : Vb X G Q b M c n pc lc st := fun H locs ls hR hS hl =>
  va_getsN (host := "PeerNotes") C.1.1 C.1.2.1 C.1.2.2.2.2.2.2.1.1 (kb_wide C hS) C.1.2.2.2.1 (by rw [ho]; exact va_Nw.use rfl C.1.2.2.2.2.2.1.2.1) (fun x h => h) hd (kk H locs ls hR hS hl)
theorem kb_feelen (C : Gb X G cc own nL d ret mc ms b) (hd : decode cc pc = .ok (.arraylength, 1)) (kk : Vb X G Q b M c n (pc + 1) lc (.int (nI 4) :: st)) : Vb X G Q b M c n pc lc (.ref G.2.1 :: st) := fun H locs ls hR hS hl =>
  va_tlen C.1.1 C.1.2.1 C.1.2.2.2.2.2.2.1.2 (kb_wide C hS) rfl hd (kk H locs ls hR hS hl)
theorem kb_ret {F : List va_E} (C : Gb X G cc own nL d none mc ms b) (hd : decode cc pc = .ok (.return_, 1)) (hM : M = F) (hc : c = mc) (hn : n = ms) : Vb X G (QB X G b F mc ms) b M c n pc lc [] := by
  subst hM; subst hc; subst hn
  exact fun H locs ls hR hS hl => W.vret C.1.1 C.1.2.1 C.1.2.2.2.2.2.2.2.2.2.2.2.1 (fun t ht hW => ⟨⟨rfl, by rw [ht]; exact hR⟩, hS.F ht⟩) hS.2.2 hd (hlocks := C.1.2.2.2.2.2.2.2.2.2.2.2.2)
/-- what a constructor's call needs of the tables -/
def SiI (y : Ym) : Prop := SiM y 0 ∧ y.1.name = "<init>" ∧ Cond.instanceMethod y.1 ∈ wsA
theorem kb_end {mc' ms' t : Nat} {F : Nat → List va_E} {H : Heap} {locs : List Loc} {ls : Array Slot} {st0 : List Value} {a : Array Value} (ht : M.length = t) (hR : Rb G b M H) (hbH : b + t ≤ H.size) (hS : va_S (fun q => b ≤ q) (cxS X).heap H locs) (hl : lcok ls lc)
    (hr : va_Run X.1 X.2.1 X.2.2.1 X.2.2.2.1 X.2.2.2.2.1 X.2.2.2.2.2.1 X.2.2.2.2.2.2.1 X.2.2.2.2.2.2.2.1 X.2.2.2.2.2.2.2.2.1 X.2.2.2.2.2.2.2.2.2 H locs c n mc' ms' (F0 (cxM X) pc ls st0) st (Qk G (b + t) (F (b + t)) a) (fun q => b + t ≤ q))
    (kk : Vb X G Q b (M ++ F (b + t)) (c + mc') (n + ms') (pc + 3) lc st) : WX X H locs c n Q (F0 (cxM X) pc ls st0) := by
  subst ht
  intro T hT Y
  obtain ⟨v, st₀, t, T', L, h0, Y', hL, e1, e2, ⟨⟨hv, hRep⟩, hz, hk⟩, stp⟩ := hr T hT Y
  cases hv
  rw [h0] at hz hk
  have hS' : va_S (fun q => b ≤ q) (cxS X).heap T'.heap (locs ++ L) := ⟨Nat.le_trans hS.1 (by rw [e1]; exact hz), fun q h1 h2 => by rw [e1, hk q (Nat.lt_of_lt_of_le h1 hS.1) (fun h => h2 (Nat.le_trans (Nat.le_add_right _ _) h))]; exact hS.2.1 q h1 h2, fun q hq => by
      rcases List.mem_append.mp hq with h | h
      · exact hS.2.2 q h
      · exact Nat.le_trans (Nat.le_add_right _ _) (hL q h)⟩
  have hR' : Rb G b M T'.heap := hR.kept fun q h1 h2 => by rw [e1]; exact hk q (Nat.lt_of_lt_of_le h2 hbH) (Nat.not_le.mpr h2)
  obtain ⟨t2, a1, b1⟩ := kk T'.heap (locs ++ L) ls (hR'.app (by rw [e1]; exact hRep)) hS' hl T' rfl Y'
  exact ⟨t2, stp t2 a1, b1⟩
theorem Gb.world (C : Gb X G cc own nL d ret mc ms b) {H : Heap} {locs : List Loc} {e0 : va_E} {t : Nat} (ht : M.length = t) (hR : Rb G b (M ++ [e0]) H) (hS : va_S (fun q => b ≤ q) (cxS X).heap H locs) (hz : (cxS X).heap.size + c = b + (t + 1)) (hu : H.size ≤ (cxS X).heap.size + c) {U : State} (hU : U.heap = H) (hW : (cxS X).WarmedH U.vm) : Wc G (b + t) [e0] U := by
  subst ht
  have h1 := hR.size (Nat.le_trans C.2.2.2 hS.1)
  rw [List.length_append] at h1
  have h2 : ([e0] : List va_E).length = 1 := rfl
  rw [h2] at h1
  refine ⟨⟨by rw [hU, h2]; omega, by rw [hU]; exact hR.right⟩, Nat.le_trans C.2.2.1 (Nat.le_add_right _ _), C.1.2.2.2.2.2.1.warm hW, (Wf.kept (C.1.2.2.2.2.2.2.1.alike hW.alike) (H1 := U.heap) (fun a h1 h2 => by rw [hU]; exact hS.2.1 a h1 (fun h => h2 (Nat.le_trans C.2.2.1 h)))), C.2.1.moved hW.alike⟩
/-- the call of a constructor -/
theorem kb_call (C : Gb X G cc own nL d ret mc ms b) (t : Nat) {d' mc' ms' index : Nat} {y : Ym} {e0 : va_E} {F : Nat → List va_E} {E : List va_E} (hs : SiI y) (hlk : Cond.methodLink own index y.1 ∈ wsA ∨ (own, index, y.1, "PeerNotes") ∈ nsM) (e4 : y.2.2.2 = none) (hcl : Clk G d' mc' ms' y e0 F) (hd' : d' + 1 ≤ d) (ht : E.length = t) (hM : M = E ++ [e0]) (hz : (cxS X).heap.size + c = b + (t + 1)) (h1 : c + mc' ≤ mc) (h2 : n + ms' ≤ ms) (hlc : lc.length = nL) (hcat : (st.map fun v => v.category).sum ≤ 8) (hd : decode cc pc = .ok (.invokespecial index, 3)) (hM' : E ++ F (b + t) = M') (kk : Vb X G Q b M' (c + mc') (n + ms') (pc + 3) lc st) : Vb X G Q b M c n pc lc (.ref (b + t) :: st) := by
  subst hM; subst hM'
  intro H locs ls hR hS hl
  obtain ⟨⟨s1, s2, s3, s4⟩, hnm, hinst⟩ := hs
  obtain ⟨y1, y2, y3, y4⟩ := y
  cases e4
  have C1 := C.1
  obtain ⟨g1, g2, g3, g4, hts, g6, g7, hf, ho, g10, g11, g12, g13⟩ := C1
  have hwd : ∀ w ∈ wsY (y1, y2, y3, none), ∀ (a' : Array Value) (U : State), (cxS X).WarmedH U.vm → w.before a' U = true := fun w hw a' U hW => by
    have hw' : w ∈ wsA := (List.mem_cons.mp hw).elim (fun e => e ▸ s2) id
    exact word_at hW (wsA_good hw') (hts w hw')
  have hpar : ∀ sig, parseMethodDescriptor y1.desc = some sig → 0 = sig.parameters.length := fun sig h => by
    have h5 := s3.2.2
    rw [h] at h5
    exact (Option.some.inj h5).symm
  have hlo : 8 + (y3 + 11) + 41 * d' ≤ (cxR X).locals := by
    have : y3 ≤ 22 := s4
    omega
  have hfr : d' + 1 ≤ (cxR X).frames := Nat.le_trans hd' hf
  refine W_up X fun hu => ?_
  have hbH : b + t ≤ H.size := by
    have h9 := hR.size (Nat.le_trans C.2.2.2 hS.1)
    rw [List.length_append] at h9
    omega
  have hp : PreS (cxS X) H (va_Pc [.ref (b + t)] (Wc G (b + t) [e0])) (.ref (b + t) :: []) := ⟨blindK, fun U hU hW => ⟨rfl, C.world ht hR hS hz hu hU hW⟩⟩
  rcases hlk with hlk | hlk
  · exact kb_end ht hR.left hbH hS hl (va_runI (nL := nL) (b := b + t) (As := []) (rest := st) ⟨g1, g2, g3, g4, hts⟩ (hcl _ _) ⟨⟨rfl, rfl, hfr, hlo, hwd, List.mem_cons_self, hts _ s2, hts _ s1, ⟨s3.1, s3.2.1⟩, hpar, hts _ hlk⟩, hnm, hts _ hinst⟩ hp rfl rfl (hl.1.trans hlc) rfl (lv_room hcat) hd ⟨Nat.le_trans h1 g10, Nat.le_trans h2 g11⟩) kk
  · exact kb_end ht hR.left hbH hS hl (va_runIN (nL := nL) (host := "PeerNotes") (b := b + t) (As := []) (rest := st) ⟨g1, g2, g3, g4, hts⟩ (hcl _ _) ⟨⟨⟨rfl, rfl, hfr, hlo, hwd, List.mem_cons_self⟩, hts _ s2, hts _ s1, ⟨s3.1, s3.2.1⟩, hpar, va_Nw.use rfl (g6.2.2 _ hlk)⟩, hnm, hts _ hinst⟩ hp rfl rfl (hl.1.trans hlc) rfl (lv_room hcat) hd ⟨Nat.le_trans h1 g10, Nat.le_trans h2 g11⟩) kk
end VB
