/-! THE SCRIPT'S CELLS -/
def cel (L : Nat) (xs : Nat → Int32) (k : Int32) : Int32 := if Int32.ofNat L ≤ k then (1013904223 : Int32) * (k + 1) else xs k.toNatClampNeg
def WdX (G : Gm) (σ : Sto) (b L : Nat) (xs : Nat → Int32) (U : State) : Prop := Wd G σ U ∧ va_X b L xs U U.heap ∧ b < U.heap.size
theorem WdX.blind {G : Gm} {σ : Sto} {b L : Nat} {xs : Nat → Int32} {U : State} (g : JFrame) (mk : MethodId) (a : Array Value) (h : WdX G σ b L xs U) : WdX G σ b L xs (U.calling g mk a) :=
  ⟨Wd.blind g mk a h.1, va_X.moved (u := U) (U := U.calling g mk a) (Vm.Alike.refl U.vm) h.2.1, h.2.2⟩
theorem blindX {av : List Value} {G : Gm} {σ : Sto} {b L : Nat} {xs : Nat → Int32} : FrameBlind (va_Pc av (WdX G σ b L xs)) := fun a U g mk q => ⟨q.1, WdX.blind g mk a q.2⟩
section CELL
variable {X : Cx} {G : Gm} {mc ms : Nat} {Q : State → Prop} {σ : Sto} {pc : Nat} {lc : List (Option Value)} {st : List Value} {cc : ByteArray} {own : String} {nL d : Nat} {ret : Option FieldType} {b L : Nat} {xs : Nat → Int32}
theorem v_slen (C : Gd X G cc own nL d ret mc ms) (hX : va_X b L xs (cxS X) (cxS X).heap) (hbl : b < (cxS X).heap.size) (hbA : ¬ AG G b) (hd : decode cc pc = .ok (.arraylength, 1)) (kk : V X G mc ms Q σ (pc + 1) lc (.int (Int32.ofNat L) :: st)) : V X G mc ms Q σ pc lc (.ref b :: st) := fun H locs ls hR hS hl => va_slen C.1 C.2.1 hX hbl hbA hS hd (kk H locs ls hR hS hl)
theorem v_sld (C : Gd X G cc own nL d ret mc ms) (hX : va_X b L xs (cxS X) (cxS X).heap) (hbl : b < (cxS X).heap.size) (hbA : ¬ AG G b) {i : Int32} (hin : inb i L) (hd : decode cc pc = .ok (.iaload, 1)) (kk : V X G mc ms Q σ (pc + 1) lc (.int (xs i.toNatClampNeg) :: st)) : V X G mc ms Q σ pc lc (.int i :: .ref b :: st) := fun H locs ls hR hS hl => va_sld C.1 C.2.1 hX hbl hbA hS (vp_in_iff.mpr hin) hd (kk H locs ls hR hS hl)
end CELL
theorem s_cell {G : Gm} {d : Nat} {σ : Sto} {b L : Nat} {xs : Nat → Int32} (hL : L ≤ 260) (hbA : ¬ AG G b) (k : Int32) (hk : 0 ≤ k.toInt) (l : Launch) : Met l yL_cell (wsY m_L_cell) (rmd d) (va_Pc [.ref b, .int k] (WdX G σ b L xs)) (QcR G (some (.int (cel L xs k))) σ) 0 0 (AG G) := by
  refine Met.ofW (cc := cL_cell) (maxL := 2) (ret := some .int) (by decide +kernel) rfl ?_
  intro p e s m args below meth c s₁ B hml hv
  obtain ⟨rfl, ⟨hR, hT, hF⟩, hX, hbl⟩ := hv
  have hts := atoms_spec (ws := wsY m_L_cell) B.pre
  have hown : s.vm.findClass RL = some m.cls := findClass_of_methodNamed B.named
  have C : Gd (p, l, e, (headSpec (wsY m_L_cell) (rmd d)).room, s, m, ([.ref b, .int k] : List Value).toArray, below, meth, c) G cL_cell RL 2 d (some .int) 0 0 := ⟨B.exec, B.bytes, hml, hown, fun w hw => hts w (List.mem_cons_of_mem _ hw), hT, hF, Nat.le_refl _, Nat.le_refl _, Nat.zero_le _, Nat.zero_le _, B.returns, B.notSynchronized⟩
  have h1 : V (p, l, e, (headSpec (wsY m_L_cell) (rmd d)).room, s, m, ([.ref b, .int k] : List Value).toArray, below, meth, c) G 0 0 (QE (p, l, e, (headSpec (wsY m_L_cell) (rmd d)).room, s, m, ([.ref b, .int k] : List Value).toArray, below, meth, c) G (some (.int (cel L xs k))) σ) σ 0 [some (.ref b), some (.int k)] [] := by
    refine v_iload_n C dL_cell_0 rfl rfl ?_
    refine v_aload_n C dL_cell_1 rfl rfl ?_
    refine v_slen C hX hbl hbA dL_cell_2 ?_
    have h : (if Int32.ofNat L ≤ k then some (((1013904223 : Int32) * (k + 1), σ)) else some (xs k.toNatClampNeg, σ)) = some (cel L xs k, σ) := by
      unfold cel
      by_cases c : Int32.ofNat L ≤ k
      · rw [if_pos c, if_pos c]
      · rw [if_neg c, if_neg c]
    by_cases c : Int32.ofNat L ≤ k
    · rw [if_pos c] at h
      have h' : (if Int32.ofNat L ≤ k then some (((1013904223 : Int32) * (k + 1), σ)) else none) = some (cel L xs k, σ) := by rw [if_pos c]; exact h
      refine v_icmp_ge C dL_cell_3 (tgt := 12) (by decide) h' (fun h => ?_) (fun h => by cases h)
      refine v_ldc C dL_cell_12 lk_L_7 ?_
      refine v_iload_n C dL_cell_14 rfl rfl ?_
      refine v_iconst C dL_cell_15 ki_1 ?_
      refine v_iadd C dL_cell_16 ?_
      refine v_imul C dL_cell_17 ?_
      exact v_iret C dL_cell_18 h
    · rw [if_neg c] at h
      have h' : (if Int32.ofNat L ≤ k then none else some (xs k.toNatClampNeg, σ)) = some (cel L xs k, σ) := by rw [if_neg c]; exact h
      refine v_icmp_ge C dL_cell_3 (tgt := 12) (by decide) h' (fun h => by cases h) (fun h => ?_)
      refine v_aload_n C dL_cell_6 rfl rfl ?_
      refine v_iload_n C dL_cell_7 rfl rfl ?_
      refine v_sld C hX hbl hbA ?_ dL_cell_8 ?_
      · have e : (Int32.ofNat L).toInt = L := nI_toInt (n := L) (by omega)
        rw [tle, e] at c
        exact ⟨hk, by omega⟩
      refine v_goto C dL_cell_9 (tgt := 18) (by decide) ?_
      exact v_iret C dL_cell_18 h
  rw [lg_entry_eq]
  exact h1 s.heap [] _ hR va_S.rf (lcok_ent (av := [.ref b, .int k]) (n := 2) (catA rfl) (Nat.le_of_ble_eq_true rfl))
section CELL2
variable {X : Cx} {G : Gm} {mc ms : Nat} {Q : State → Prop} {σ : Sto} {pc : Nat} {lc : List (Option Value)} {st : List Value} {cc : ByteArray} {own : String} {nL d : Nat} {ret : Option FieldType} {b L : Nat} {xs : Nat → Int32}
theorem v_cell (C : Gd X G cc own nL (d + 1) ret mc ms) (hL : L ≤ 260) (hX : va_X b L xs (cxS X) (cxS X).heap) (hbl : b < (cxS X).heap.size) (hbA : ¬ AG G b) {k : Int32} {index : Nat} (hlk : Cond.methodLink own index yL_cell ∈ wsA) (hlc : lc.length = nL) (hcat : (st.map fun v => v.category).sum ≤ 8) (hd : decode cc pc = .ok (.invokestatic index, 3)) {R : Type} {A : Option R} {res : R} (h : (if 0 ≤ k.toInt then A else none) = some res) (kk : A = some res → V X G mc ms Q σ (pc + 3) lc (.int (cel L xs k) :: st)) : V X G mc ms Q σ pc lc (.int k :: .ref b :: st) := by
  intro H locs ls hR hS hl
  refine run_end hS hl (va_runS (nL := nL) (As := [.ref b, .int k]) (rest := st) ⟨C.1, C.2.1, C.2.2.1, C.2.2.2.1, C.2.2.2.2.1⟩ (s_cell (G := G) (σ := σ) (xs := xs) (d := d) hL hbA k (if_some h).1 _) ⟨C.callB si_L_cell.1 hlk, C.2.2.2.2.1 _ si_L_cell.2⟩ ⟨blindX, fun U hU hW => ⟨rfl, C.world hR hS hU hW, ?_, ?_⟩⟩ rfl rfl (hl.1.trans hlc) rfl (lv_room hcat) hd ⟨C.2.2.2.2.2.2.2.2.2.1, C.2.2.2.2.2.2.2.2.2.2.1⟩) (kk (if_some h).2)
  · exact va_X.moved hW.alike (by rw [hU]; exact hX.kept (hS.2.1 b hbl hbA))
  · rw [hU]; exact Nat.lt_of_lt_of_le hbl hS.1
end CELL2
