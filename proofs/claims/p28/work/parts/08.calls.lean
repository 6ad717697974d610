/-! CONTRACTS AND CALLS -/
abbrev Ym : Type := MethodName × ByteArray × Nat × Option FieldType
def rmd (d : Nat) : Room := { frames := d, cells := 0, slots := 0, locals := 41 * d }
def wsY (y : Ym) : List Cond := .code y.1 y.2.1 y.2.2.1 y.2.2.2 :: wsA
def QcR (G : Gm) (r : Option Value) (τ : Sto) : Array Value → State → Outcome → State → Prop := fun _ st oc t => (oc = .returned r ∧ Rep G τ t.heap) ∧ va_F (AG G) st t
/-- the contract: from a world with σ the call of y with these values returns r and leaves the world with τ; d: the depth of calls that it may need -/
def Cl (G : Gm) (d : Nat) (y : Ym) (av : List Value) (σ : Sto) (r : Option Value) (τ : Sto) : Prop := ∀ l : Launch, Met l y.1 (wsY y) (rmd d) (va_Pc av (Wd G σ)) (QcR G r τ) 0 0 (AG G)
def QE (X : Cx) (G : Gm) (r : Option Value) (τ : Sto) : State → Prop := MQ X.2.2.2.2.2.2.2.1 (QcR G r τ) (cxA X) (cxS X) 0 0 (AG G)
def ent (av : List Value) (n : Nat) : List (Option Value) := av.map some ++ List.replicate (n - av.length) none
theorem lg_sl_1 : ∀ {av : List Value}, (∀ v ∈ av, v.category = 1) → lg_sl av = av.map Slot.val
  | [], _ => rfl
  | v :: av, h => by
    have h1 := h v List.mem_cons_self
    have h2 := lg_sl_1 (av := av) (fun w hw => h w (List.mem_cons_of_mem _ hw))
    show (if v.category = 2 then _ else _) ++ lg_sl av = _
    rw [if_neg (by omega), h2]
    rfl
theorem lv_args_1 : ∀ (av : List Value) (i : Nat), (∀ v ∈ av, v.category = 1) → ∀ (k : Nat) (w : Value), i ≤ k → av[k - i]? = some w → (k, w) ∈ lv_args i av
  | [], _, _, _, _, _, h => by simp at h
  | v :: av, i, hc, k, w, hk, h => by
    have h1 := hc v List.mem_cons_self
    show (k, w) ∈ (i, v) :: lv_args (if v.category = 2 then i + 2 else i + 1) av
    rw [if_neg (by omega)]
    rcases Nat.eq_or_lt_of_le hk with e | e
    · subst e
      rw [Nat.sub_self] at h
      cases h
      exact List.mem_cons_self
    · refine List.mem_cons_of_mem _ (lv_args_1 av (i + 1) (fun w hw => hc w (List.mem_cons_of_mem _ hw)) k w e ?_)
      rw [show k - i = (k - (i + 1)) + 1 by omega, List.getElem?_cons_succ] at h
      exact h
theorem lcok_ent {av : List Value} {n : Nat} (hc : ∀ v ∈ av, v.category = 1) (hn : av.length ≤ n) : lcok ((lg_sl av ++ List.replicate (n - (lg_sl av).length) Slot.unset).toArray) (ent av n) := by
  have h := lv_entry av (n := n) (by rw [lg_sl_1 hc, List.length_map]; exact hn)
  have hl : (ent av n).length = n := by simp only [ent, List.length_append, List.length_map, List.length_replicate]; omega
  refine ⟨by rw [hl]; exact h.1, h.2.1, fun q hq => ?_⟩
  obtain ⟨k, w⟩ := q
  have hk := ((asc_mem _ 0 k w).mp hq).2
  rw [Nat.sub_zero, ent] at hk
  refine h.2.2 (k, w) (lv_args_1 av 0 hc k w (Nat.zero_le _) ?_)
  rw [Nat.sub_zero]
  by_cases hlt : k < av.length
  · rw [List.getElem?_append_left (by simpa using hlt), List.getElem?_map] at hk
    rcases hx : av[k]? with _ | z <;> rw [hx] at hk <;> simp at hk
    rw [hk]
  · rw [List.getElem?_append_right (by simpa using hlt)] at hk
    have := List.eq_of_mem_replicate (List.mem_of_getElem? hk)
    cases this
theorem Cl.mk {G : Gm} {d : Nat} {y : Ym} {av : List Value} {σ τ : Sto} {r : Option Value} {cc : ByteArray} {own : String} {nL : Nat} {ret : Option FieldType} (e1 : y.2.1 = cc) (e2 : y.1.cls = own) (e3 : y.2.2.1 = nL) (e4 : y.2.2.2 = ret) (hy : plainName y.1.cls = true) (hc : ∀ v ∈ av, v.category = 1) (hn : av.length ≤ nL)
    (h : ∀ X : Cx, Gd X G cc own nL d ret 0 0 → V X G 0 0 (QE X G r τ) σ 0 (ent av nL) []) : Cl G d y av σ r τ := by
  subst e1; subst e2; subst e3; subst e4
  intro l
  refine Met.ofW (cc := y.2.1) (maxL := y.2.2.1) (ret := y.2.2.2) hy rfl ?_
  intro p e s m args below meth c s₁ B hml hv
  obtain ⟨rfl, hR, hT, hF⟩ := hv
  have hts := atoms_spec (ws := wsY y) B.pre
  have hown : s.vm.findClass y.1.cls = some m.cls := findClass_of_methodNamed B.named
  have h1 := h (p, l, e, (headSpec (wsY y) (rmd d)).room, s, m, av.toArray, below, meth, c) ⟨B.exec, B.bytes, hml, hown, fun w hw => hts w (List.mem_cons_of_mem _ hw), hT, hF, Nat.le_refl _, Nat.le_refl _, Nat.zero_le _, Nat.zero_le _, B.returns, B.notSynchronized⟩
  rw [lg_entry_eq]
  exact h1 s.heap [] _ hR va_S.rf (lcok_ent hc hn)
section V2
variable {X : Cx} {G : Gm} {mc ms : Nat} {Q : State → Prop} {σ τ : Sto} {pc : Nat} {lc : List (Option Value)} {st : List Value} {cc : ByteArray} {own : String} {nL d : Nat} {ret : Option FieldType}
theorem v_iret {x r : Int32} (C : Gd X G cc own nL d (some .int) 0 0) (hd : decode cc pc = .ok (.ireturn, 1)) (h : some (x, σ) = some (r, τ)) : V X G 0 0 (QE X G (some (.int r)) τ) σ pc lc [.int x] := by
  cases h
  exact fun H locs ls hR hS hl => W.iret C.1 C.2.1 C.2.2.2.2.2.2.2.2.2.2.2.1 (fun t ht hW => ⟨⟨rfl, by rw [ht]; exact hR⟩, hS.F ht⟩) hS.2.2 hd (hlocks := C.2.2.2.2.2.2.2.2.2.2.2.2)
theorem v_zretc {x r : Int32} (C : Gd X G cc own nL d (some .boolean) 0 0) (hd : decode cc pc = .ok (.ireturn, 1)) (hn : narrow .boolean (.int x) = .int x) (h : some (x, σ) = some (r, τ)) : V X G 0 0 (QE X G (some (.int r)) τ) σ pc lc [.int x] := by
  cases h
  exact fun H locs ls hR hS hl => W.zret C.1 C.2.1 C.2.2.2.2.2.2.2.2.2.2.2.1 hn (fun t ht hW => ⟨⟨rfl, by rw [ht]; exact hR⟩, hS.F ht⟩) hS.2.2 hd (hlocks := C.2.2.2.2.2.2.2.2.2.2.2.2)
theorem nar01 {x : Int32} (h : x = 0 ∨ x = 1) : narrow .boolean (.int x) = .int x := by
  rcases h with rfl | rfl <;> decide +kernel
theorem fit01 {x : Int32} (h : x = 0 ∨ x = 1) : fits .boolean (.int x) = true := by
  rcases h with rfl | rfl <;> decide +kernel
theorem v_zret {x r : Int32} (C : Gd X G cc own nL d (some .boolean) 0 0) (hd : decode cc pc = .ok (.ireturn, 1)) (h : (if x = 0 ∨ x = 1 then some (x, σ) else none) = some (r, τ)) : V X G 0 0 (QE X G (some (.int r)) τ) σ pc lc [.int x] := v_zretc C hd (nar01 (if_some h).1) (if_some h).2
theorem v_vret (C : Gd X G cc own nL d none 0 0) (hd : decode cc pc = .ok (.return_, 1)) (h : some σ = some τ) : V X G 0 0 (QE X G none τ) σ pc lc [] := by
  cases h
  exact fun H locs ls hR hS hl => W.vret C.1 C.2.1 C.2.2.2.2.2.2.2.2.2.2.2.1 (fun t ht hW => ⟨⟨rfl, by rw [ht]; exact hR⟩, hS.F ht⟩) hS.2.2 hd (hlocks := C.2.2.2.2.2.2.2.2.2.2.2.2)
/-- what a call's place and its method need of the tables -/
def SiM (y : Ym) (n : Nat) : Prop := Cond.initialized y.1.cls ∈ wsA ∧ Cond.code y.1 y.2.1 y.2.2.1 y.2.2.2 ∈ wsA ∧ (y.1.cls ≠ "java/lang/invoke/MethodHandle" ∧ y.1.cls ≠ "java/lang/invoke/VarHandle" ∧ (parseMethodDescriptor y.1.desc).map (fun d => d.parameters.length) = some n) ∧ y.2.2.1 ≤ 22
def SiV (y : Ym) (n : Nat) : Prop := SiM y n ∧ Cond.instanceMethod y.1 ∈ wsA ∧ Cond.selects y.1.cls y.1 y.1 ∈ wsA
def SiS (y : Ym) (n : Nat) : Prop := SiM y n ∧ Cond.static y.1 ∈ wsA
theorem Gd.callB (C : Gd X G cc own nL (d + 1) ret mc ms) {y : Ym} {n index : Nat} (hs : SiM y n) (hl : Cond.methodLink own index y.1 ∈ wsA) : CallB (cxR X) (cxS X) (cxA X) own index y.1 y.2.1 y.2.2.1 y.2.2.2 (wsY y) (rmd d) 0 0 n := by
  obtain ⟨h1, h2, h3, h4⟩ := hs
  obtain ⟨-, -, -, -, hts, -, -, hf, ho, -⟩ := C
  refine ⟨rfl, rfl, hf, by show 8 + (y.2.2.1 + 11) + 41 * d ≤ _; omega, fun w hw a' U hW => ?_, List.mem_cons_self, hts _ h2, hts _ h1, ⟨h3.1, h3.2.1⟩, fun sig h => ?_, hts _ hl⟩
  · have hw' : w ∈ wsA := (List.mem_cons.mp hw).elim (fun e => e ▸ h2) id
    exact word_at hW (wsA_good hw') (hts w hw')
  · have h5 := h3.2.2
    rw [h] at h5
    exact (Option.some.inj h5).symm
theorem Gd.callN (C : Gd X G cc own nL (d + 1) ret mc ms) {y : Ym} {n index : Nat} {host : String} (hs : SiM y n) (hl : (own, index, y.1, host) ∈ nsM) : va_CN (cxR X) (cxS X) (cxA X) own index y.1 host y.2.1 y.2.2.1 y.2.2.2 (wsY y) (rmd d) 0 0 n := by
  obtain ⟨h1, h2, h3, h4⟩ := hs
  obtain ⟨-, -, -, -, hts, hwt, -, hf, ho, -⟩ := C
  refine ⟨⟨rfl, rfl, hf, by show 8 + (y.2.2.1 + 11) + 41 * d ≤ _; omega, fun w hw a' U hW => ?_, List.mem_cons_self⟩, hts _ h2, hts _ h1, ⟨h3.1, h3.2.1⟩, fun sig h => ?_, va_Nw.use rfl (hwt.2.2 _ hl)⟩
  · have hw' : w ∈ wsA := (List.mem_cons.mp hw).elim (fun e => e ▸ h2) id
    exact word_at hW (wsA_good hw') (hts w hw')
  · have h5 := h3.2.2
    rw [h] at h5
    exact (Option.some.inj h5).symm
theorem blindW {av : List Value} : FrameBlind (va_Pc av (Wd G σ)) := fun a U g mk q => ⟨q.1, Wd.blind g mk a q.2⟩
theorem Gd.world (C : Gd X G cc own nL d ret mc ms) {H : Heap} {locs : List Loc} (hR : Rep G σ H) (hS : va_S (AG G) (cxS X).heap H locs) {U : State} (hU : U.heap = H) (hW : (cxS X).WarmedH U.vm) : Wd G σ U :=
  ⟨by rw [hU]; exact hR, C.2.2.2.2.2.1.warm hW, (Wf.kept (C.2.2.2.2.2.2.1.alike hW.alike) (H1 := U.heap) (fun a h1 h2 => by rw [hU]; exact hS.2.1 a h1 h2))⟩
/-- the end of a call -/
theorem run_end {H : Heap} {locs : List Loc} {ls : Array Slot} {r : Option Value} {st0 : List Value} {a : Array Value} (hS : va_S (AG G) (cxS X).heap H locs) (hl : lcok ls lc)
    (hr : va_Run X.1 X.2.1 X.2.2.1 X.2.2.2.1 X.2.2.2.2.1 X.2.2.2.2.2.1 X.2.2.2.2.2.2.1 X.2.2.2.2.2.2.2.1 X.2.2.2.2.2.2.2.2.1 X.2.2.2.2.2.2.2.2.2 H locs mc ms 0 0 (F0 (cxM X) pc ls st0) st (QcR G r τ a) (AG G))
    (kk : V X G mc ms Q τ (pc + 3) lc (r.toList ++ st)) : WX X H locs mc ms Q (F0 (cxM X) pc ls st0) := by
  intro T hT Y
  obtain ⟨v, st₀, t, T', L, h0, Y', hL, e1, e2, ⟨⟨hv, hRep⟩, hz, hk⟩, stp⟩ := hr T hT Y
  cases hv
  rw [h0] at hz hk
  have hS' : va_S (AG G) (cxS X).heap T'.heap (locs ++ L) := ⟨Nat.le_trans hS.1 (by rw [e1]; exact hz), fun q h1 h2 => by rw [e1, hk q (Nat.lt_of_lt_of_le h1 hS.1) h2]; exact hS.2.1 q h1 h2, fun q hq => by
      rcases List.mem_append.mp hq with h | h
      · exact hS.2.2 q h
      · exact hL q h⟩
  obtain ⟨t2, a1, b1⟩ := kk T'.heap (locs ++ L) ls (by rw [e1]; exact hRep) hS' hl T' rfl Y'
  exact ⟨t2, stp t2 a1, b1⟩
theorem v_callV (C : Gd X G cc own nL (d + 1) ret mc ms) (κ j l : Nat) {y : Ym} {n index : Nat} {av fs st0 : List Value} {r : Option Value} {T : u_T} {N : Nat} (hs : SiV y n) (hlk : Cond.methodLink own index y.1 ∈ wsA) (hk : okt κ j l) (hc : clz[κ]? = some (y.1.cls, T, N)) (he : cE G σ κ j l = .inr (κ, fs)) (hn : av.length = n) (hlc : lc.length = nL) (hst : st0 = av.reverse ++ .ref (ad G κ j l) :: st) (hcat : (st.map fun v => v.category).sum ≤ 8) (hd : decode cc pc = .ok (.invokevirtual index, 3)) (hcl : Cl G d y (.ref (ad G κ j l) :: av) σ r τ)
    (kk : V X G mc ms Q τ (pc + 3) lc (r.toList ++ st)) : V X G mc ms Q σ pc lc st0 := by
  intro H locs ls hR hS hl
  refine run_end hS hl (va_runV (C := y.1.cls) (nL := nL) (b := ad G κ j l) (As := av) (rest := st) ⟨C.1, C.2.1, C.2.2.1, C.2.2.2.1, C.2.2.2.2.1⟩ (hcl _) ⟨C.callB hs.1 hlk, C.2.2.2.2.1 _ hs.2.1, C.2.2.2.2.1 _ hs.2.2⟩ ⟨blindW, va_recv C.2.2.2.2.2.1.1 hR.1 hc (q0 := off κ j l) (by rw [wl_get hk, he]), fun U hU hW => ⟨rfl, C.world hR hS hU hW⟩⟩ rfl hn (hl.1.trans hlc) hst (lv_room hcat) hd ⟨C.2.2.2.2.2.2.2.2.2.1, C.2.2.2.2.2.2.2.2.2.2.1⟩) kk
theorem v_callS (C : Gd X G cc own nL (d + 1) ret mc ms) {y : Ym} {n index : Nat} {av st0 : List Value} {r : Option Value} (hs : SiS y n) (hlk : Cond.methodLink own index y.1 ∈ wsA) (hn : av.length = n) (hlc : lc.length = nL) (hst : st0 = av.reverse ++ st) (hcat : (st.map fun v => v.category).sum ≤ 8) (hd : decode cc pc = .ok (.invokestatic index, 3)) (hcl : Cl G d y av σ r τ)
    (kk : V X G mc ms Q τ (pc + 3) lc (r.toList ++ st)) : V X G mc ms Q σ pc lc st0 := by
  intro H locs ls hR hS hl
  refine run_end hS hl (va_runS (nL := nL) (As := av) (rest := st) ⟨C.1, C.2.1, C.2.2.1, C.2.2.2.1, C.2.2.2.2.1⟩ (hcl _) ⟨C.callB hs.1 hlk, C.2.2.2.2.1 _ hs.2⟩ ⟨blindW, fun U hU hW => ⟨rfl, C.world hR hS hU hW⟩⟩ rfl hn (hl.1.trans hlc) hst (lv_room hcat) hd ⟨C.2.2.2.2.2.2.2.2.2.1, C.2.2.2.2.2.2.2.2.2.2.1⟩) kk
theorem v_callSN (C : Gd X G cc own nL (d + 1) ret mc ms) {y : Ym} {n index : Nat} {av st0 : List Value} {r : Option Value} (hs : SiS y n) (hlk : (own, index, y.1, "PeerNotes") ∈ nsM) (hn : av.length = n) (hlc : lc.length = nL) (hst : st0 = av.reverse ++ st) (hcat : (st.map fun v => v.category).sum ≤ 8) (hd : decode cc pc = .ok (.invokestatic index, 3)) (hcl : Cl G d y av σ r τ)
    (kk : V X G mc ms Q τ (pc + 3) lc (r.toList ++ st)) : V X G mc ms Q σ pc lc st0 := by
  intro H locs ls hR hS hl
  refine run_end hS hl (va_runSN (nL := nL) (As := av) (rest := st) ⟨C.1, C.2.1, C.2.2.1, C.2.2.2.1, C.2.2.2.2.1⟩ (hcl _) ⟨C.callN hs.1 hlk, C.2.2.2.2.1 _ hs.2, trivial⟩ ⟨blindW, fun U hU hW => ⟨rfl, C.world hR hS hU hW⟩⟩ rfl hn (hl.1.trans hlc) hst (lv_room hcat) hd ⟨C.2.2.2.2.2.2.2.2.2.1, C.2.2.2.2.2.2.2.2.2.2.1⟩) kk
/-- Math.min, Math.max -/
def jmin (x y : Int32) : Int32 := if y < x then y else x
def jmax (x y : Int32) : Int32 := if x < y then y else x
theorem v_mmin (C : Gd X G cc own nL (d + 1) ret mc ms) {x y : Int32} {index : Nat} (hlk : Cond.methodLink own index Lib.Math.min.name ∈ wsA) (h1 : Cond.static Lib.Math.min.name ∈ wsA) (h2 : Cond.initialized "java/lang/Math" ∈ wsA) (h3 : Cond.code Lib.Math.min.name Lib.Math.min.code 2 (some .int) ∈ wsA) (hlc : lc.length = nL) (hcat : (st.map fun v => v.category).sum ≤ 8) (hd : decode cc pc = .ok (.invokestatic index, 3))
    (kk : V X G mc ms Q σ (pc + 3) lc (.int (jmin x y) :: st)) : V X G mc ms Q σ pc lc (.int y :: .int x :: st) := by
  intro H locs ls hR hS hl
  obtain ⟨c1, c2, c3, c4, hts, -, -, hf, ho, hc1, hc2, -⟩ := C
  exact va_mmin c1 c2 (c3.trans (hlc.symm.trans hl.1.symm)) c4 (hts _ hlk) (hts _ h1) (hts _ h2) (hts _ h3) (by omega) (by omega) hc1 hc2 hd (kk H locs ls hR hS hl)
theorem v_mmax (C : Gd X G cc own nL (d + 1) ret mc ms) {x y : Int32} {index : Nat} (hlk : Cond.methodLink own index Lib.Math.max.name ∈ wsA) (h1 : Cond.static Lib.Math.max.name ∈ wsA) (h2 : Cond.initialized "java/lang/Math" ∈ wsA) (h3 : Cond.code Lib.Math.max.name Lib.Math.max.code 2 (some .int) ∈ wsA) (hlc : lc.length = nL) (hcat : (st.map fun v => v.category).sum ≤ 8) (hd : decode cc pc = .ok (.invokestatic index, 3))
    (kk : V X G mc ms Q σ (pc + 3) lc (.int (jmax x y) :: st)) : V X G mc ms Q σ pc lc (.int y :: .int x :: st) := by
  intro H locs ls hR hS hl
  obtain ⟨c1, c2, c3, c4, hts, -, -, hf, ho, hc1, hc2, -⟩ := C
  exact va_mmax c1 c2 (c3.trans (hlc.symm.trans hl.1.symm)) c4 (hts _ hlk) (hts _ h1) (hts _ h2) (hts _ h3) (by omega) (by omega) hc1 hc2 hd (kk H locs ls hR hS hl)
/-- calls with their answer out of the store's function -/
theorem vb_i {R : Type} {f : Option (Int32 × Sto)} {k : Int32 → Sto → Option R} {res : R} {T : Prop} (h : bd f k = some res) (kk : ∀ (r : Int32) (τ : Sto), f = some (r, τ) → k r τ = some res → T) : T := by
  obtain ⟨r, τ, h1, h2⟩ := bd_some h
  exact kk r τ h1 h2
theorem vb_v {R : Type} {f : Option Sto} {k : Sto → Option R} {res : R} {T : Prop} (h : bv f k = some res) (kk : ∀ τ : Sto, f = some τ → k τ = some res → T) : T := by
  obtain ⟨τ, h1, h2⟩ := bv_some h
  exact kk τ h1 h2
end V2
