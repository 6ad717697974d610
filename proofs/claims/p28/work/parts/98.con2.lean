/-! THE CONSTRUCTORS, by program (wip/p28/con.py) -/
theorem wo_1 : Cond.instanceMethod objectInit ∈ wsA := (wA 23 (by decide +kernel) rfl)
theorem wo_2 : Cond.code objectInit ⟨#[0xb1]⟩ 1 none ∈ wsA := (wA 24 (by decide +kernel) rfl)
theorem wr_int : Cond.arrayClass .int ∈ wsA := (wA 61 (by decide +kernel) rfl)
theorem wr_char : Cond.arrayClass .char ∈ wsA := (wA 251 (by decide +kernel) rfl)
abbrev m_X0_init : Ym := (yX0_init, cX0_init, 1, none)
theorem si_X0_init : SiI m_X0_init := ⟨⟨(wA 13 (by decide +kernel) rfl), (wA 240 (by decide +kernel) rfl), ⟨by decide +kernel, by decide +kernel, by decide +kernel⟩, by decide⟩, rfl, (wA 239 (by decide +kernel) rfl)⟩
theorem wi_X0 : Cond.instantiable RX0 4 ∈ wsA := (wA 237 (by decide +kernel) rfl)
theorem wn_X0 : Cond.initialized RX0 ∈ wsA := (wA 13 (by decide +kernel) rfl)
abbrev m_X1_init : Ym := (yX1_init, cX1_init, 2, none)
theorem si_X1_init : SiI m_X1_init := ⟨⟨(wA 12 (by decide +kernel) rfl), (wA 233 (by decide +kernel) rfl), ⟨by decide +kernel, by decide +kernel, by decide +kernel⟩, by decide⟩, rfl, (wA 232 (by decide +kernel) rfl)⟩
theorem wi_X1 : Cond.instantiable RX1 4 ∈ wsA := (wA 230 (by decide +kernel) rfl)
theorem wn_X1 : Cond.initialized RX1 ∈ wsA := (wA 12 (by decide +kernel) rfl)
abbrev m_X2_init : Ym := (yX2_init, cX2_init, 2, none)
theorem si_X2_init : SiI m_X2_init := ⟨⟨(wA 11 (by decide +kernel) rfl), (wA 216 (by decide +kernel) rfl), ⟨by decide +kernel, by decide +kernel, by decide +kernel⟩, by decide⟩, rfl, (wA 215 (by decide +kernel) rfl)⟩
theorem wi_X2 : Cond.instantiable RX2 2 ∈ wsA := (wA 213 (by decide +kernel) rfl)
theorem wn_X2 : Cond.initialized RX2 ∈ wsA := (wA 11 (by decide +kernel) rfl)
abbrev m_X3_init : Ym := (yX3_init, cX3_init, 1, none)
theorem si_X3_init : SiI m_X3_init := ⟨⟨(wA 8 (by decide +kernel) rfl), (wA 42 (by decide +kernel) rfl), ⟨by decide +kernel, by decide +kernel, by decide +kernel⟩, by decide⟩, rfl, (wA 41 (by decide +kernel) rfl)⟩
theorem wi_X3 : Cond.instantiable RX3 3 ∈ wsA := (wA 39 (by decide +kernel) rfl)
theorem wn_X3 : Cond.initialized RX3 ∈ wsA := (wA 8 (by decide +kernel) rfl)
abbrev m_X4_init : Ym := (yX4_init, cX4_init, 1, none)
theorem si_X4_init : SiI m_X4_init := ⟨⟨(wA 9 (by decide +kernel) rfl), (wA 65 (by decide +kernel) rfl), ⟨by decide +kernel, by decide +kernel, by decide +kernel⟩, by decide⟩, rfl, (wA 64 (by decide +kernel) rfl)⟩
theorem wi_X4 : Cond.instantiable RX4 11 ∈ wsA := (wA 62 (by decide +kernel) rfl)
theorem wn_X4 : Cond.initialized RX4 ∈ wsA := (wA 9 (by decide +kernel) rfl)
abbrev m_X5_init : Ym := (yX5_init, cX5_init, 2, none)
theorem si_X5_init : SiI m_X5_init := ⟨⟨(wA 7 (by decide +kernel) rfl), (wA 29 (by decide +kernel) rfl), ⟨by decide +kernel, by decide +kernel, by decide +kernel⟩, by decide⟩, rfl, (wA 28 (by decide +kernel) rfl)⟩
theorem wi_X5 : Cond.instantiable RX5 10 ∈ wsA := (wA 26 (by decide +kernel) rfl)
theorem wn_X5 : Cond.initialized RX5 ∈ wsA := (wA 7 (by decide +kernel) rfl)
abbrev m_X6_init : Ym := (yX6_init, cX6_init, 1, none)
theorem si_X6_init : SiI m_X6_init := ⟨⟨(wA 10 (by decide +kernel) rfl), (wA 123 (by decide +kernel) rfl), ⟨by decide +kernel, by decide +kernel, by decide +kernel⟩, by decide⟩, rfl, (wA 122 (by decide +kernel) rfl)⟩
theorem wi_X6 : Cond.instantiable RX6 7 ∈ wsA := (wA 120 (by decide +kernel) rfl)
theorem wn_X6 : Cond.initialized RX6 ∈ wsA := (wA 10 (by decide +kernel) rfl)
abbrev m_X7_init : Ym := (yX7_init, cX7_init, 1, none)
theorem si_X7_init : SiI m_X7_init := ⟨⟨(wA 14 (by decide +kernel) rfl), (wA 270 (by decide +kernel) rfl), ⟨by decide +kernel, by decide +kernel, by decide +kernel⟩, by decide⟩, rfl, (wA 269 (by decide +kernel) rfl)⟩
theorem wi_X7 : Cond.instantiable RX7 6 ∈ wsA := (wA 267 (by decide +kernel) rfl)
theorem wn_X7 : Cond.initialized RX7 ∈ wsA := (wA 14 (by decide +kernel) rfl)
abbrev m_X8_init : Ym := (yX8_init, cX8_init, 1, none)
theorem si_X8_init : SiI m_X8_init := ⟨⟨(wA 15 (by decide +kernel) rfl), (wA 309 (by decide +kernel) rfl), ⟨by decide +kernel, by decide +kernel, by decide +kernel⟩, by decide⟩, rfl, (wA 308 (by decide +kernel) rfl)⟩
theorem wi_X8 : Cond.instantiable RX8 3 ∈ wsA := (wA 306 (by decide +kernel) rfl)
theorem wn_X8 : Cond.initialized RX8 ∈ wsA := (wA 15 (by decide +kernel) rfl)
abbrev m_X9_init : Ym := (yX9_init, cX9_init, 1, none)
theorem si_X9_init : SiI m_X9_init := ⟨⟨(wA 6 (by decide +kernel) rfl), (wA 21 (by decide +kernel) rfl), ⟨by decide +kernel, by decide +kernel, by decide +kernel⟩, by decide⟩, rfl, (wA 20 (by decide +kernel) rfl)⟩
theorem wi_X9 : Cond.instantiable RX9 8 ∈ wsA := (wA 18 (by decide +kernel) rfl)
theorem wn_X9 : Cond.initialized RX9 ∈ wsA := (wA 6 (by decide +kernel) rfl)
theorem wl_X0_1 : Cond.methodLink RX0 1 objectInit ∈ wsA := (wA 241 (by decide +kernel) rfl)
theorem wl_X1_3 : Cond.methodLink RX1 3 objectInit ∈ wsA := (wA 234 (by decide +kernel) rfl)
theorem wf_X1_9 : Cond.fieldLink RX1 9 "PeerNotes$FundingText" "signs" "[C" ∈ wsA := (wA 252 (by decide +kernel) rfl)
theorem wf_X1_15 : Cond.fieldLink RX1 15 "PeerNotes$FundingText" "length" "I" ∈ wsA := (wA 253 (by decide +kernel) rfl)
theorem wc_X1_19 : Cond.classLink RX1 19 RX0 ∈ wsA := (wA 235 (by decide +kernel) rfl)
theorem wf_X1_21 : Cond.fieldLink RX1 21 "PeerNotes$FundingText" "fundings" "[LPeerNotes$Funding;" ∈ wsA := (wA 255 (by decide +kernel) rfl)
theorem wf_X1_25 : Cond.fieldLink RX1 25 "PeerNotes$FundingText" "fundingCount" "I" ∈ wsA := (wA 256 (by decide +kernel) rfl)
theorem wl_X1_28 : Cond.methodLink RX1 28 yX0_init ∈ wsA ∨ (RX1, 28, yX0_init, "PeerNotes") ∈ nsM := Or.inr (by decide +kernel)
theorem wl_X2_3 : Cond.methodLink RX2 3 objectInit ∈ wsA := (wA 217 (by decide +kernel) rfl)
theorem wc_X2_9 : Cond.classLink RX2 9 RX5 ∈ wsA := (wA 218 (by decide +kernel) rfl)
theorem wf_X2_11 : Cond.fieldLink RX2 11 "PeerNotes$History" "states" "[LPeerNotes$Market;" ∈ wsA := (wA 221 (by decide +kernel) rfl)
theorem wf_X2_17 : Cond.fieldLink RX2 17 "PeerNotes$History" "size" "I" ∈ wsA := (wA 222 (by decide +kernel) rfl)
theorem wl_X2_21 : Cond.methodLink RX2 21 yX5_init ∈ wsA ∨ (RX2, 21, yX5_init, "PeerNotes") ∈ nsM := Or.inl (wA 220 (by decide +kernel) rfl)
theorem wl_X3_1 : Cond.methodLink RX3 1 objectInit ∈ wsA := (wA 43 (by decide +kernel) rfl)
theorem wl_X4_3 : Cond.methodLink RX4 3 objectInit ∈ wsA := (wA 66 (by decide +kernel) rfl)
theorem wl_X5_3 : Cond.methodLink RX5 3 objectInit ∈ wsA := (wA 30 (by decide +kernel) rfl)
theorem wc_X5_9 : Cond.classLink RX5 9 RX3 ∈ wsA := (wA 31 (by decide +kernel) rfl)
theorem wf_X5_11 : Cond.fieldLink RX5 11 "PeerNotes$Market" "investors" "[LPeerNotes$Investor;" ∈ wsA := (wA 164 (by decide +kernel) rfl)
theorem wc_X5_17 : Cond.classLink RX5 17 RX4 ∈ wsA := (wA 33 (by decide +kernel) rfl)
theorem wf_X5_19 : Cond.fieldLink RX5 19 "PeerNotes$Market" "loans" "[LPeerNotes$Loan;" ∈ wsA := (wA 167 (by decide +kernel) rfl)
theorem wc_X5_23 : Cond.classLink RX5 23 RX6 ∈ wsA := (wA 35 (by decide +kernel) rfl)
theorem wf_X5_25 : Cond.fieldLink RX5 25 "PeerNotes$Market" "notes" "[LPeerNotes$Note;" ∈ wsA := (wA 170 (by decide +kernel) rfl)
theorem wf_X5_33 : Cond.fieldLink RX5 33 "PeerNotes$Market" "earned" "[I" ∈ wsA := (wA 173 (by decide +kernel) rfl)
theorem wf_X5_36 : Cond.fieldLink RX5 36 "PeerNotes$Market" "investorCount" "I" ∈ wsA := (wA 175 (by decide +kernel) rfl)
theorem wf_X5_40 : Cond.fieldLink RX5 40 "PeerNotes$Market" "loanCount" "I" ∈ wsA := (wA 178 (by decide +kernel) rfl)
theorem wf_X5_43 : Cond.fieldLink RX5 43 "PeerNotes$Market" "noteCount" "I" ∈ wsA := (wA 180 (by decide +kernel) rfl)
theorem wf_X5_46 : Cond.fieldLink RX5 46 "PeerNotes$Market" "months" "I" ∈ wsA := (wA 183 (by decide +kernel) rfl)
theorem wf_X5_49 : Cond.fieldLink RX5 49 "PeerNotes$Market" "pool" "I" ∈ wsA := (wA 185 (by decide +kernel) rfl)
theorem wf_X5_52 : Cond.fieldLink RX5 52 "PeerNotes$Market" "share" "I" ∈ wsA := (wA 188 (by decide +kernel) rfl)
theorem wl_X5_55 : Cond.methodLink RX5 55 yX3_init ∈ wsA ∨ (RX5, 55, yX3_init, "PeerNotes") ∈ nsM := Or.inr (by decide +kernel)
theorem wl_X5_56 : Cond.methodLink RX5 56 yX4_init ∈ wsA ∨ (RX5, 56, yX4_init, "PeerNotes") ∈ nsM := Or.inr (by decide +kernel)
theorem wl_X5_57 : Cond.methodLink RX5 57 yX6_init ∈ wsA ∨ (RX5, 57, yX6_init, "PeerNotes") ∈ nsM := Or.inr (by decide +kernel)
theorem wl_X6_1 : Cond.methodLink RX6 1 objectInit ∈ wsA := (wA 124 (by decide +kernel) rfl)
theorem wl_X7_3 : Cond.methodLink RX7 3 objectInit ∈ wsA := (wA 271 (by decide +kernel) rfl)
theorem wl_X8_3 : Cond.methodLink RX8 3 objectInit ∈ wsA := (wA 310 (by decide +kernel) rfl)
theorem wf_X8_9 : Cond.fieldLink RX8 9 "PeerNotes$Payout" "interest" "[I" ∈ wsA := (wA 311 (by decide +kernel) rfl)
theorem wf_X8_15 : Cond.fieldLink RX8 15 "PeerNotes$Payout" "principal" "[I" ∈ wsA := (wA 312 (by decide +kernel) rfl)
theorem wf_X8_18 : Cond.fieldLink RX8 18 "PeerNotes$Payout" "weights" "[I" ∈ wsA := (wA 313 (by decide +kernel) rfl)
theorem wl_X9_1 : Cond.methodLink RX9 1 objectInit ∈ wsA := (wA 22 (by decide +kernel) rfl)
theorem wc_X9_7 : Cond.classLink RX9 7 RX5 ∈ wsA := (wA 25 (by decide +kernel) rfl)
theorem wl_X9_9 : Cond.methodLink RX9 9 yX5_init ∈ wsA ∨ (RX9, 9, yX5_init, "PeerNotes") ∈ nsM := Or.inl (wA 27 (by decide +kernel) rfl)
theorem wf_X9_10 : Cond.fieldLink RX9 10 "PeerNotes" "market" "LPeerNotes$Market;" ∈ wsA := (wA 321 (by decide +kernel) rfl)
theorem wf_X9_16 : Cond.fieldLink RX9 16 "PeerNotes" "before" "LPeerNotes$Market;" ∈ wsA := (wA 322 (by decide +kernel) rfl)
theorem wf_X9_19 : Cond.fieldLink RX9 19 "PeerNotes" "kept" "LPeerNotes$Market;" ∈ wsA := (wA 323 (by decide +kernel) rfl)
theorem wf_X9_22 : Cond.fieldLink RX9 22 "PeerNotes" "hasKept" "Z" ∈ wsA := (wA 324 (by decide +kernel) rfl)
theorem wc_X9_26 : Cond.classLink RX9 26 RX2 ∈ wsA := (wA 212 (by decide +kernel) rfl)
theorem wl_X9_28 : Cond.methodLink RX9 28 yX2_init ∈ wsA ∨ (RX9, 28, yX2_init, "PeerNotes") ∈ nsM := Or.inl (wA 214 (by decide +kernel) rfl)
theorem wf_X9_29 : Cond.fieldLink RX9 29 "PeerNotes" "history" "LPeerNotes$History;" ∈ wsA := (wA 325 (by decide +kernel) rfl)
theorem wc_X9_33 : Cond.classLink RX9 33 RX1 ∈ wsA := (wA 229 (by decide +kernel) rfl)
theorem wl_X9_35 : Cond.methodLink RX9 35 yX1_init ∈ wsA ∨ (RX9, 35, yX1_init, "PeerNotes") ∈ nsM := Or.inl (wA 231 (by decide +kernel) rfl)
theorem wf_X9_36 : Cond.fieldLink RX9 36 "PeerNotes" "text" "LPeerNotes$FundingText;" ∈ wsA := (wA 326 (by decide +kernel) rfl)
theorem wc_X9_40 : Cond.classLink RX9 40 RX7 ∈ wsA := (wA 266 (by decide +kernel) rfl)
theorem wl_X9_42 : Cond.methodLink RX9 42 yX7_init ∈ wsA ∨ (RX9, 42, yX7_init, "PeerNotes") ∈ nsM := Or.inr (by decide +kernel)
theorem wf_X9_43 : Cond.fieldLink RX9 43 "PeerNotes" "parts" "LPeerNotes$Parts;" ∈ wsA := (wA 327 (by decide +kernel) rfl)
theorem wc_X9_47 : Cond.classLink RX9 47 RX8 ∈ wsA := (wA 305 (by decide +kernel) rfl)
theorem wl_X9_49 : Cond.methodLink RX9 49 yX8_init ∈ wsA ∨ (RX9, 49, yX8_init, "PeerNotes") ∈ nsM := Or.inr (by decide +kernel)
theorem wf_X9_50 : Cond.fieldLink RX9 50 "PeerNotes" "payout" "LPeerNotes$Payout;" ∈ wsA := (wA 328 (by decide +kernel) rfl)
theorem wc_L_20 : Cond.classLink RL 20 RX9 ∈ wsA := (wA 17 (by decide +kernel) rfl)
theorem wl_L_92 : Cond.methodLink RL 92 yX9_init ∈ wsA ∨ (RL, 92, yX9_init, "PeerNotes") ∈ nsM := Or.inl (wA 19 (by decide +kernel) rfl)
/-! the cells -/
abbrev iv0 : va_E := .inr (3, [.int 0, .int 0, .int 0])
abbrev lo0 : va_E := .inr (4, [.int 0, .int 0, .int 0, .int 0, .int 0, .int 0, .int 0, .int 0, .int 0, .int 0, .int 0])
abbrev no0 : va_E := .inr (6, [.int 0, .int 0, .int 0, .int 0, .int 0, .int 0, .int 0])
abbrev fd0 : va_E := .inr (0, [.int 0, .int 0, .int 0, .int 0])
abbrev pt0 : va_E := .inr (7, [.int 0, .int 0, .int 0, .int 0, .int 0, .int 0])
abbrev po0 : va_E := .inr (8, [.null, .null, .null])
abbrev tx0 : va_E := .inr (1, [.null, .int 0, .null, .int 0])
abbrev mk0 : va_E := .inr (5, [.null, .null, .null, .null, .int 0, .int 0, .int 0, .int 0, .int 0, .int 0])
abbrev hs0 : va_E := .inr (2, [.null, .int 0])
abbrev pn0 : va_E := .inr (9, [.null, .null, .null, .int 0, .null, .null, .null, .null])
abbrev zi (G : Gm) (N : Nat) : va_E := .inl (G.2.2.2 0, N, .inl fun _ => 0)
abbrev zc (G : Gm) : va_E := .inl (G.2.2.2 1, 60, .inl fun _ => 0)
abbrev ra0 (G : Gm) (i N : Nat) : va_E := .inl (G.2.2.2 i, N, .inr (.inr (.inr (.inr fun _ => none))))
/-- an array of references of which k are set, to the cells a, a + w, .. -/
def ranf (a w k : Nat) : Nat → Option Nat := fun j => if j < k then some (a + w * j) else none
abbrev ran (G : Gm) (i N a w k : Nat) : va_E := .inl (G.2.2.2 i, N, .inr (.inr (.inr (.inr (ranf a w k)))))
theorem ranf_0 (a w : Nat) : (fun _ => none) = ranf a w 0 := funext fun j => (if_neg (Nat.not_lt_zero j)).symm
theorem ranf_up (a w k : Nat) : va_up (ranf a w k) k (some (a + w * k)) = ranf a w (k + 1) := by
  funext j
  unfold va_up ranf
  by_cases h : j = k
  · subst h
    rw [if_pos rfl, if_pos (Nat.lt_succ_self _)]
  · rw [if_neg h]
    by_cases h2 : j < k
    · rw [if_pos h2, if_pos (by omega)]
    · rw [if_neg h2, if_neg (by omega)]
/-- k pieces, one behind another -/
def fillB (F : Nat → List va_E) (a w : Nat) : Nat → List va_E
  | 0 => []
  | k + 1 => fillB F a w k ++ F (a + w * k)
theorem fb_len0 {F : Nat → List va_E} {w : Nat} (h : ∀ a, (F a).length = w) (a : Nat) : ∀ k, (fillB F a w k).length = w * k
  | 0 => rfl
  | k + 1 => by
    show (fillB F a w k ++ F (a + w * k)).length = w * (k + 1)
    rw [List.length_append, fb_len0 h a k, h]
    rfl
theorem one_len {x : va_E} {a k : Nat} : (fillB (fun _ => [x]) a 1 k).length = k := (fb_len0 (fun _ => rfl) a k).trans (Nat.one_mul k)
theorem set_mid {α : Type} (pre : List α) (x y : α) (R : List α) : (pre ++ x :: R).set pre.length y = pre ++ y :: R := by
  induction pre with
  | nil => rfl
  | cons a l ih => exact congrArg (a :: ·) ih
theorem get_mid {α : Type} (pre : List α) (x : α) (R : List α) : (pre ++ x :: R)[pre.length]? = some x := by
  rw [List.getElem?_append_right (Nat.le_refl _), Nat.sub_self]
  rfl
theorem kb_sum {X : Cx} {G : Gm} {Q : State → Prop} {b c n pc : Nat} {M : List va_E} {lc : List (Option Value)} {st : List Value} (c' n' : Nat) (hc : c = c') (hn : n = n') (kk : Vb X G Q b M c' n' pc lc st) : Vb X G Q b M c n pc lc st := by
  subst hc; subst hn
  exact kk
theorem kb_eqM {X : Cx} {G : Gm} {Q : State → Prop} {b c n pc : Nat} {M M' : List va_E} {lc : List (Option Value)} {st : List Value} (h : M = M') (kk : Vb X G Q b M' c n pc lc st) : Vb X G Q b M c n pc lc st := by
  subst h
  exact kk
/-- a loop that fills an array with new objects -/
theorem kb_fill {X : Cx} {G : Gm} {mc ms : Nat} {Q : State → Prop} {b c0 n0 p0 : Nat} {cc : ByteArray} {own : String} {d : Nat} {ret : Option FieldType} (C : Gb X G cc own 2 d ret mc ms b)
    (κ0 kf ta i κ N L : Nat) {pre post : List va_E} {w v : Nat} {C0 : String} {T0 : u_T} {N0 ig : Nat} {fs0 : List Value} (hc0 : clz[κ0]? = some (C0, T0, N0)) (hin0 : ∀ w ∈ u_ws C0 T0 N0, w ∈ wsA) (hkf : kf < N0) (hlk0 : Cond.fieldLink own ig C0 (T0 kf).2.1 (T0 kf).2.2.1 ∈ wsA) (hT0 : (T0 kf).1 = C0)
    {CX : String} {TX : u_T} {NX ix : Nat} {fs : List Value} (hi : (tysG G)[i]? = some (G.2.2.2 i, .object CX)) (ty0 : Nat → FieldType) (hcx : clz[κ]? = some (CX, TX, NX)) (hrx : (CX, TX, NX).1 = CX) (hinx : ∀ w ∈ u_ws CX TX NX, w ∈ wsA) (htyx : ∀ k, k < NX → parseFieldDescriptor (TX k).2.2.1 = some (ty0 k)) (hclx : Cond.classLink own ix CX ∈ wsA) (hinst : Cond.instantiable CX NX ∈ wsA) (hini : Cond.initialized CX ∈ wsA) (hfs : ∀ j, j < NX → defaultValue (ty0 j) = vp_V fs j)
    {d' mc' ms' ic : Nat} {y : Ym} {F : Nat → List va_E} (hs : SiI y) (hlk : Cond.methodLink own ic y.1 ∈ wsA ∨ (own, ic, y.1, "PeerNotes") ∈ nsM) (e4 : y.2.2.2 = none) (hcl : Clk G d' mc' ms' y (.inr (κ, fs)) F) (hd' : d' + 1 ≤ d) (hF0 : ∀ a, ∃ fs', (F a)[0]? = some (.inr (κ, fs'))) (hFl : ∀ a, (F a).length = w)
    (hw : w = 1 + mc') (hv : v = NX + ms') (hpre : pre[0]? = some (.inr (κ0, fs0))) (hfs0 : fs0[kf]? = some (.ref (b + ta))) (hta : pre.length = ta) (hL : (pre ++ ra0 G i N :: post).length = L) (hz : (cxS X).heap.size + c0 = b + L) (hN : N < 2 ^ 27) (h1 : c0 + w * N ≤ mc) (h2 : n0 + v * N ≤ ms)
    (d0 : decode cc p0 = .ok (.iload_n 1, 1)) (d1 : decode cc (p0 + 1) = .ok (.aload_n 0, 1)) (d2 : decode cc (p0 + 2) = .ok (.getfield ig, 3)) (d5 : decode cc (p0 + 5) = .ok (.arraylength, 1)) (d6 : decode cc (p0 + 6) = .ok (.if_icmp .ge 22, 3)) (d9 : decode cc (p0 + 9) = .ok (.aload_n 0, 1)) (d10 : decode cc (p0 + 10) = .ok (.getfield ig, 3)) (d13 : decode cc (p0 + 13) = .ok (.iload_n 1, 1)) (d14 : decode cc (p0 + 14) = .ok (.new ix, 3)) (d17 : decode cc (p0 + 17) = .ok (.dup, 1)) (d18 : decode cc (p0 + 18) = .ok (.invokespecial ic, 3)) (d21 : decode cc (p0 + 21) = .ok (.aastore, 1)) (d22 : decode cc (p0 + 22) = .ok (.iinc 1 1, 3)) (d25 : decode cc (p0 + 25) = .ok (.goto (-25), 3))
    (kk : Vb X G Q b (pre ++ ran G i N (b + L) w N :: (post ++ fillB F (b + L) w N)) (c0 + w * N) (n0 + v * N) (p0 + 28) [some (.ref b), some (.int (nI N))] []) : Vb X G Q b (pre ++ ra0 G i N :: post) c0 n0 p0 [some (.ref b), some (.int (nI 0))] [] := by
  have hN31 : N < 2 ^ 31 := by omega
  have key : ∀ r k : Nat, k + r = N → Vb X G Q b (pre ++ ran G i N (b + L) w k :: (post ++ fillB F (b + L) w k)) (c0 + w * k) (n0 + v * k) p0 [some (.ref b), some (.int (nI k))] [] := by
    intro r
    induction r with
    | zero =>
      intro k hk
      have hk : k = N := hk
      subst hk
      have hget : (pre ++ ran G i k (b + L) w k :: (post ++ fillB F (b + L) w k))[0]? = some (.inr (κ0, fs0)) := by
        rw [List.getElem?_append_left (List.getElem?_eq_some_iff.mp hpre).1]; exact hpre
      refine kb_iload_n C d0 rfl rfl ?_
      refine kb_aload_n C d1 rfl rfl ?_
      refine kb_get C κ0 0 kf hc0 hin0 hkf hlk0 hT0 hget hfs0 d2 ?_
      refine kb_alen C ta i hi (x := (k, .inr (.inr (.inr (.inr (ranf (b + L) w k)))))) (by rw [← hta]; exact get_mid _ _ _) d5 ?_
      refine kb_icmp_ge C d6 (tgt := p0 + 28) (by omega) (fun _ => kk) (fun h => absurd (nI_le (Nat.le_refl k) hN31) h)
    | succ r ih =>
      intro k hk
      have hkN : k < N := by omega
      have hwk : w * k + w ≤ w * N := by rw [← Nat.mul_succ]; exact Nat.mul_le_mul_left w hkN
      have hvk : v * k + v ≤ v * N := by rw [← Nat.mul_succ]; exact Nat.mul_le_mul_left v hkN
      have hget : ∀ R, (pre ++ ran G i N (b + L) w k :: R)[0]? = some (.inr (κ0, fs0)) := fun R => by
        rw [List.getElem?_append_left (List.getElem?_eq_some_iff.mp hpre).1]; exact hpre
      have hlen : (pre ++ ran G i N (b + L) w k :: (post ++ fillB F (b + L) w k)).length = L + w * k := by
        rw [← hL]
        simp only [List.length_append, List.length_cons, fb_len0 hFl]
        omega
      refine kb_iload_n C d0 rfl rfl ?_
      refine kb_aload_n C d1 rfl rfl ?_
      refine kb_get C κ0 0 kf hc0 hin0 hkf hlk0 hT0 (hget _) hfs0 d2 ?_
      refine kb_alen C ta i hi (x := (N, .inr (.inr (.inr (.inr (ranf (b + L) w k)))))) (by rw [← hta]; exact get_mid _ _ _) d5 ?_
      refine kb_icmp_ge C d6 (tgt := p0 + 28) (by omega) (fun h => absurd h (nI_ge hkN hN31)) (fun _ => ?_)
      refine kb_aload_n C d9 rfl rfl ?_
      refine kb_get C κ0 0 kf hc0 hin0 hkf hlk0 hT0 (hget _) hfs0 d10 ?_
      refine kb_iload_n C d13 rfl rfl ?_
      refine kb_new C κ ty0 (L + w * k) hcx hinx htyx hclx hinst hini (fs := fs) hfs hlen (by omega) (by omega) (by omega) d14 rfl ?_
      refine kb_dup C d17 ?_
      refine kb_call C (L + w * k) (E := pre ++ ran G i N (b + L) w k :: (post ++ fillB F (b + L) w k)) hs hlk e4 hcl hd' hlen rfl (by omega) (by omega) (by omega) rfl (by simp [Value.category]) d18 (M' := pre ++ ran G i N (b + L) w k :: (post ++ fillB F (b + L) w (k + 1))) (by
        show _ = pre ++ ran G i N (b + L) w k :: (post ++ (fillB F (b + L) w k ++ F (b + L + w * k)))
        rw [Nat.add_assoc b L (w * k)]
        simp only [List.append_assoc, List.cons_append]) ?_
      obtain ⟨fs', hfs'⟩ := hF0 (b + L + w * k)
      have hu : (pre ++ ran G i N (b + L) w k :: (post ++ fillB F (b + L) w (k + 1)))[L + w * k]? = some (.inr (κ, fs')) := by
        have e : pre ++ ran G i N (b + L) w k :: (post ++ fillB F (b + L) w (k + 1)) = (pre ++ ran G i N (b + L) w k :: (post ++ fillB F (b + L) w k)) ++ F (b + L + w * k) := by
          show pre ++ ran G i N (b + L) w k :: (post ++ (fillB F (b + L) w k ++ F (b + L + w * k))) = _
          simp only [List.append_assoc, List.cons_append]
        rw [e, List.getElem?_append_right (by rw [hlen]; exact Nat.le_refl _), hlen, Nat.sub_self]
        exact hfs'
      refine kb_aast C ta (L + w * k) κ i k N (r := (CX, TX, NX)) hi (by rw [← hta]; exact get_mid _ _ _) hu hcx hkN hN31 d21 (M' := pre ++ ran G i N (b + L) w (k + 1) :: (post ++ fillB F (b + L) w (k + 1))) (by
        rw [← Nat.add_assoc b L (w * k), ranf_up, ← hta]
        exact set_mid _ _ _ _) ?_
      refine kb_iinc C d22 rfl (v := nI (k + 1)) (by rw [nI_succ]; rfl) (lc1 := [some (.ref b), some (.int (nI (k + 1)))]) rfl ?_
      refine kb_goto C d25 (tgt := p0) (by omega) ?_
      refine kb_sum (c0 + w * (k + 1)) (n0 + v * (k + 1)) (by rw [Nat.mul_succ]; omega) (by rw [Nat.mul_succ]; omega) ?_
      exact ih (k + 1) (by omega)
  have := key N 0 (Nat.zero_add N)
  refine kb_eqM (M' := pre ++ ran G i N (b + L) w 0 :: (post ++ fillB F (b + L) w 0)) ?_ this
  show _ = pre ++ (Sum.inl (G.2.2.2 i, N, .inr (.inr (.inr (.inr (ranf (b + L) w 0))))) : va_E) :: (post ++ [])
  rw [List.append_nil, ← ranf_0]
def poM (G : Gm) (b : Nat) : List va_E := [.inr (8, [.ref (b + 1), .ref (b + 2), .ref (b + 3)]), zi G 60, zi G 60, zi G 60]
def txM (G : Gm) (b : Nat) : List va_E := [.inr (1, [.ref (b + 1), .int 0, .ref (b + 2), .int 0]), zc G, ran G 6 10 (b + 3) 1 10] ++ fillB (fun _ => [fd0]) (b + 3) 1 10
def mkM (G : Gm) (b : Nat) : List va_E := [.inr (5, [.ref (b + 1), .ref (b + 2), .ref (b + 3), .ref (b + 4), .int 0, .int 0, .int 0, .int 0, .int 0, .int 5]), ran G 2 8 (b + 5) 1 8, ran G 3 10 (b + 13) 1 10] ++ ran G 4 60 (b + 23) 1 60 :: ((([zi G 4] ++ fillB (fun _ => [iv0]) (b + 5) 1 8) ++ fillB (fun _ => [lo0]) (b + 13) 1 10) ++ fillB (fun _ => [no0]) (b + 23) 1 60)
theorem poM_len {G : Gm} {b : Nat} : (poM G b).length = 4 := rfl
theorem txM_len {G : Gm} {b : Nat} : (txM G b).length = 13 := by simp [txM, one_len]
theorem mkM_len {G : Gm} {b : Nat} : (mkM G b).length = 83 := by simp [mkM, one_len]
theorem fb_len {G : Gm} {a k : Nat} : (fillB (mkM G) a 83 k).length = 83 * k := fb_len0 (fun _ => mkM_len) a k
def hsM (G : Gm) (b : Nat) : List va_E := [.inr (2, [.ref (b + 1), .int 0]), ran G 5 4 (b + 2) 83 4] ++ fillB (mkM G) (b + 2) 83 4
theorem hsM_len {G : Gm} {b : Nat} : (hsM G b).length = 334 := by simp [hsM, fb_len]
def pnM (G : Gm) (b : Nat) : List va_E := .inr (9, [.ref (b + 1), .ref (b + 84), .ref (b + 167), .int 0, .ref (b + 250), .ref (b + 584), .ref (b + 597), .ref (b + 598)]) :: ((((((mkM G (b + 1) ++ mkM G (b + 84)) ++ mkM G (b + 167)) ++ hsM G (b + 250)) ++ txM G (b + 584)) ++ [pt0]) ++ poM G (b + 598))

set_option maxRecDepth 20000 in
set_option maxHeartbeats 4000000 in
theorem k_X0 (G : Gm) : Clk G 1 0 0 m_X0_init fd0 (fun _ => [fd0]) := by
  refine Clk.mk (cc := cX0_init) (own := RX0) (nL := 1) rfl rfl rfl rfl (by decide) rfl (by decide) (fun X b C hnm hz => ?_)
  have hO := C.2.1
  show Vb X G _ b [fd0] 0 0 0 [some (.ref b)] []
  refine kb_aload_n C dX0_init_0 rfl rfl ?_
  refine kb_obj C wl_X0_1 wo_1 wo_2 rfl (by decide) (Nat.le_of_ble_eq_true rfl) dX0_init_1 ?_
  exact kb_ret C dX0_init_4 rfl rfl rfl
set_option maxRecDepth 20000 in
set_option maxHeartbeats 4000000 in
theorem k_X3 (G : Gm) : Clk G 1 0 0 m_X3_init iv0 (fun _ => [iv0]) := by
  refine Clk.mk (cc := cX3_init) (own := RX3) (nL := 1) rfl rfl rfl rfl (by decide) rfl (by decide) (fun X b C hnm hz => ?_)
  have hO := C.2.1
  show Vb X G _ b [iv0] 0 0 0 [some (.ref b)] []
  refine kb_aload_n C dX3_init_0 rfl rfl ?_
  refine kb_obj C wl_X3_1 wo_1 wo_2 rfl (by decide) (Nat.le_of_ble_eq_true rfl) dX3_init_1 ?_
  exact kb_ret C dX3_init_4 rfl rfl rfl
set_option maxRecDepth 20000 in
set_option maxHeartbeats 4000000 in
theorem k_X4 (G : Gm) : Clk G 1 0 0 m_X4_init lo0 (fun _ => [lo0]) := by
  refine Clk.mk (cc := cX4_init) (own := RX4) (nL := 1) rfl rfl rfl rfl (by decide) rfl (by decide) (fun X b C hnm hz => ?_)
  have hO := C.2.1
  show Vb X G _ b [lo0] 0 0 0 [some (.ref b)] []
  refine kb_aload_n C dX4_init_0 rfl rfl ?_
  refine kb_obj C wl_X4_3 wo_1 wo_2 rfl (by decide) (Nat.le_of_ble_eq_true rfl) dX4_init_1 ?_
  exact kb_ret C dX4_init_4 rfl rfl rfl
set_option maxRecDepth 20000 in
set_option maxHeartbeats 4000000 in
theorem k_X6 (G : Gm) : Clk G 1 0 0 m_X6_init no0 (fun _ => [no0]) := by
  refine Clk.mk (cc := cX6_init) (own := RX6) (nL := 1) rfl rfl rfl rfl (by decide) rfl (by decide) (fun X b C hnm hz => ?_)
  have hO := C.2.1
  show Vb X G _ b [no0] 0 0 0 [some (.ref b)] []
  refine kb_aload_n C dX6_init_0 rfl rfl ?_
  refine kb_obj C wl_X6_1 wo_1 wo_2 rfl (by decide) (Nat.le_of_ble_eq_true rfl) dX6_init_1 ?_
  exact kb_ret C dX6_init_4 rfl rfl rfl
set_option maxRecDepth 20000 in
set_option maxHeartbeats 4000000 in
theorem k_X7 (G : Gm) : Clk G 1 0 0 m_X7_init pt0 (fun _ => [pt0]) := by
  refine Clk.mk (cc := cX7_init) (own := RX7) (nL := 1) rfl rfl rfl rfl (by decide) rfl (by decide) (fun X b C hnm hz => ?_)
  have hO := C.2.1
  show Vb X G _ b [pt0] 0 0 0 [some (.ref b)] []
  refine kb_aload_n C dX7_init_0 rfl rfl ?_
  refine kb_obj C wl_X7_3 wo_1 wo_2 rfl (by decide) (Nat.le_of_ble_eq_true rfl) dX7_init_1 ?_
  exact kb_ret C dX7_init_4 rfl rfl rfl
set_option maxRecDepth 20000 in
set_option maxHeartbeats 4000000 in
theorem k_X8 (G : Gm) : Clk G 1 3 180 m_X8_init po0 (poM G) := by
  refine Clk.mk (cc := cX8_init) (own := RX8) (nL := 1) rfl rfl rfl rfl (by decide) rfl (by decide) (fun X b C hnm hz => ?_)
  have hO := C.2.1
  show Vb X G _ b [po0] 0 0 0 [some (.ref b)] []
  refine kb_aload_n C dX8_init_0 rfl rfl ?_
  refine kb_obj C wl_X8_3 wo_1 wo_2 rfl (by decide) (Nat.le_of_ble_eq_true rfl) dX8_init_1 ?_
  refine kb_aload_n C dX8_init_4 rfl rfl ?_
  refine kb_bipush C (v := nI 60) dX8_init_5 (by decide +kernel) ?_
  refine kb_newa C 0 60 1 (atype := .int) (ty := .int) rfl wr_int rfl rfl (by decide) (by decide) rfl (by omega) (by decide) (by decide) dX8_init_7 (M' := (.inr (8, [.null, .null, .null]) :: [zi G 60])) rfl ?_
  refine kb_sum 1 60 rfl rfl ?_
  refine kb_putF C hnm 8 0 0 tyX8 rfl inA8 tyX8_ok nmX8 (by decide) wf_X8_9 rfl rfl rfl (tyX8_ok 0 (by decide)) rfl rfl rfl (Nat.le_of_ble_eq_true rfl) dX8_init_9 (M' := (.inr (8, [.ref (b + 1), .null, .null]) :: [zi G 60])) rfl ?_
  refine kb_aload_n C dX8_init_12 rfl rfl ?_
  refine kb_bipush C (v := nI 60) dX8_init_13 (by decide +kernel) ?_
  refine kb_newa C 0 60 2 (atype := .int) (ty := .int) rfl wr_int rfl rfl (by decide) (by decide) rfl (by omega) (by decide) (by decide) dX8_init_15 (M' := (.inr (8, [.ref (b + 1), .null, .null]) :: ([zi G 60] ++ [zi G 60]))) rfl ?_
  refine kb_sum 2 120 rfl rfl ?_
  refine kb_putF C hnm 8 0 1 tyX8 rfl inA8 tyX8_ok nmX8 (by decide) wf_X8_15 rfl rfl rfl (tyX8_ok 1 (by decide)) rfl rfl rfl (Nat.le_of_ble_eq_true rfl) dX8_init_17 (M' := (.inr (8, [.ref (b + 1), .ref (b + 2), .null]) :: ([zi G 60] ++ [zi G 60]))) rfl ?_
  refine kb_aload_n C dX8_init_20 rfl rfl ?_
  refine kb_bipush C (v := nI 60) dX8_init_21 (by decide +kernel) ?_
  refine kb_newa C 0 60 3 (atype := .int) (ty := .int) rfl wr_int rfl rfl (by decide) (by decide) rfl (by omega) (by decide) (by decide) dX8_init_23 (M' := (.inr (8, [.ref (b + 1), .ref (b + 2), .null]) :: (([zi G 60] ++ [zi G 60]) ++ [zi G 60]))) rfl ?_
  refine kb_sum 3 180 rfl rfl ?_
  refine kb_putF C hnm 8 0 2 tyX8 rfl inA8 tyX8_ok nmX8 (by decide) wf_X8_18 rfl rfl rfl (tyX8_ok 2 (by decide)) rfl rfl rfl (Nat.le_of_ble_eq_true rfl) dX8_init_25 (M' := (.inr (8, [.ref (b + 1), .ref (b + 2), .ref (b + 3)]) :: (([zi G 60] ++ [zi G 60]) ++ [zi G 60]))) rfl ?_
  exact kb_ret C dX8_init_28 rfl rfl rfl
set_option maxRecDepth 20000 in
set_option maxHeartbeats 4000000 in
theorem k_X1 (G : Gm) : Clk G 2 12 110 m_X1_init tx0 (txM G) := by
  refine Clk.mk (cc := cX1_init) (own := RX1) (nL := 2) rfl rfl rfl rfl (by decide) rfl (by decide) (fun X b C hnm hz => ?_)
  have hO := C.2.1
  show Vb X G _ b [tx0] 0 0 0 [some (.ref b), none] []
  refine kb_aload_n C dX1_init_0 rfl rfl ?_
  refine kb_obj C wl_X1_3 wo_1 wo_2 rfl (by decide) (Nat.le_of_ble_eq_true rfl) dX1_init_1 ?_
  refine kb_aload_n C dX1_init_4 rfl rfl ?_
  refine kb_bipush C (v := nI 60) dX1_init_5 (by decide +kernel) ?_
  refine kb_newa C 1 60 1 (atype := .char) (ty := .char) rfl wr_char rfl rfl (by decide) (by decide) rfl (by omega) (by decide) (by decide) dX1_init_7 (M' := (.inr (1, [.null, .int 0, .null, .int 0]) :: [zc G])) rfl ?_
  refine kb_sum 1 60 rfl rfl ?_
  refine kb_putF C hnm 1 0 0 tyX1 rfl inA1 tyX1_ok nmX1 (by decide) wf_X1_9 rfl rfl rfl (tyX1_ok 0 (by decide)) rfl rfl rfl (Nat.le_of_ble_eq_true rfl) dX1_init_9 (M' := (.inr (1, [.ref (b + 1), .int 0, .null, .int 0]) :: [zc G])) rfl ?_
  refine kb_aload_n C dX1_init_12 rfl rfl ?_
  refine kb_iconst C (v := 0) dX1_init_13 ki_0 ?_
  refine kb_put C 1 0 1 tyX1 rfl inA1 tyX1_ok nmX1 (by decide) wf_X1_15 rfl rfl (tyX1_ok 1 (by decide)) rfl rfl rfl (Nat.le_of_ble_eq_true rfl) dX1_init_14 (M' := (.inr (1, [.ref (b + 1), .int 0, .null, .int 0]) :: [zc G])) rfl ?_
  refine kb_aload_n C dX1_init_17 rfl rfl ?_
  refine kb_bipush C (v := nI 10) dX1_init_18 (by decide +kernel) ?_
  refine kb_anew C 6 10 2 wc_X1_19 hO.1 rfl (by decide) (by decide) rfl (by omega) (by decide) (by decide) dX1_init_20 (M' := (.inr (1, [.ref (b + 1), .int 0, .null, .int 0]) :: ([zc G] ++ [ra0 G 6 10]))) rfl ?_
  refine kb_sum 2 70 rfl rfl ?_
  refine kb_putF C hnm 1 0 2 tyX1 rfl inA1 tyX1_ok nmX1 (by decide) wf_X1_21 rfl rfl rfl (tyX1_ok 2 (by decide)) rfl rfl rfl (Nat.le_of_ble_eq_true rfl) dX1_init_23 (M' := (.inr (1, [.ref (b + 1), .int 0, .ref (b + 2), .int 0]) :: ([zc G] ++ [ra0 G 6 10]))) rfl ?_
  refine kb_aload_n C dX1_init_26 rfl rfl ?_
  refine kb_iconst C (v := 0) dX1_init_27 ki_0 ?_
  refine kb_put C 1 0 3 tyX1 rfl inA1 tyX1_ok nmX1 (by decide) wf_X1_25 rfl rfl (tyX1_ok 3 (by decide)) rfl rfl rfl (Nat.le_of_ble_eq_true rfl) dX1_init_28 (M' := (.inr (1, [.ref (b + 1), .int 0, .ref (b + 2), .int 0]) :: ([zc G] ++ [ra0 G 6 10]))) rfl ?_
  refine kb_iconst C (v := nI 0) dX1_init_31 (by decide +kernel) ?_
  refine kb_istore_n C dX1_init_32 rfl (Nat.le_of_ble_eq_true rfl) (lc1 := [some (.ref b), some (.int (nI 0))]) rfl ?_
  refine kb_fill C 1 2 2 6 0 10 3 (pre := [.inr (1, [.ref (b + 1), .int 0, .ref (b + 2), .int 0]), zc G]) (post := []) (w := 1) (v := 4) rfl inA1 (by decide) wf_X1_21 rfl rfl tyX0 rfl rfl inA0 tyX0_ok wc_X1_19 wi_X0 wn_X0 (fs := [.int 0, .int 0, .int 0, .int 0]) (by decide) si_X0_init wl_X1_28 rfl (F := fun _ => [fd0]) (k_X0 G) (by decide) (fun _ => ⟨_, rfl⟩) (fun _ => rfl) rfl rfl rfl rfl rfl (by simp [List.length_append, fb_len, one_len]) (by omega) (by decide) (by decide) (by decide) dX1_init_33 dX1_init_34 dX1_init_35 dX1_init_38 dX1_init_39 dX1_init_42 dX1_init_43 dX1_init_46 dX1_init_47 dX1_init_50 dX1_init_51 dX1_init_54 dX1_init_55 dX1_init_58 ?_
  refine kb_sum 12 110 rfl rfl ?_
  exact kb_ret C dX1_init_61 rfl rfl rfl

set_option maxRecDepth 20000 in
set_option maxHeartbeats 4000000 in
theorem k_X5 (G : Gm) : Clk G 2 82 636 m_X5_init mk0 (mkM G) := by
  refine Clk.mk (cc := cX5_init) (own := RX5) (nL := 2) rfl rfl rfl rfl (by decide) rfl (by decide) (fun X b C hnm hz => ?_)
  have hO := C.2.1
  show Vb X G _ b [mk0] 0 0 0 [some (.ref b), none] []
  refine kb_aload_n C dX5_init_0 rfl rfl ?_
  refine kb_obj C wl_X5_3 wo_1 wo_2 rfl (by decide) (Nat.le_of_ble_eq_true rfl) dX5_init_1 ?_
  refine kb_aload_n C dX5_init_4 rfl rfl ?_
  refine kb_bipush C (v := nI 8) dX5_init_5 (by decide +kernel) ?_
  refine kb_anew C 2 8 1 wc_X5_9 hO.2.1 rfl (by decide) (by decide) rfl (by omega) (by decide) (by decide) dX5_init_7 (M' := (.inr (5, [.null, .null, .null, .null, .int 0, .int 0, .int 0, .int 0, .int 0, .int 0]) :: [ra0 G 2 8])) rfl ?_
  refine kb_sum 1 8 rfl rfl ?_
  refine kb_putF C hnm 5 0 0 tyX5 rfl inA5 tyX5_ok nmX5 (by decide) wf_X5_11 rfl rfl rfl (tyX5_ok 0 (by decide)) rfl rfl rfl (Nat.le_of_ble_eq_true rfl) dX5_init_10 (M' := (.inr (5, [.ref (b + 1), .null, .null, .null, .int 0, .int 0, .int 0, .int 0, .int 0, .int 0]) :: [ra0 G 2 8])) rfl ?_
  refine kb_aload_n C dX5_init_13 rfl rfl ?_
  refine kb_bipush C (v := nI 10) dX5_init_14 (by decide +kernel) ?_
  refine kb_anew C 3 10 2 wc_X5_17 hO.2.2.1 rfl (by decide) (by decide) rfl (by omega) (by decide) (by decide) dX5_init_16 (M' := (.inr (5, [.ref (b + 1), .null, .null, .null, .int 0, .int 0, .int 0, .int 0, .int 0, .int 0]) :: ([ra0 G 2 8] ++ [ra0 G 3 10]))) rfl ?_
  refine kb_sum 2 18 rfl rfl ?_
  refine kb_putF C hnm 5 0 1 tyX5 rfl inA5 tyX5_ok nmX5 (by decide) wf_X5_19 rfl rfl rfl (tyX5_ok 1 (by decide)) rfl rfl rfl (Nat.le_of_ble_eq_true rfl) dX5_init_19 (M' := (.inr (5, [.ref (b + 1), .ref (b + 2), .null, .null, .int 0, .int 0, .int 0, .int 0, .int 0, .int 0]) :: ([ra0 G 2 8] ++ [ra0 G 3 10]))) rfl ?_
  refine kb_aload_n C dX5_init_22 rfl rfl ?_
  refine kb_bipush C (v := nI 60) dX5_init_23 (by decide +kernel) ?_
  refine kb_anew C 4 60 3 wc_X5_23 hO.2.2.2.2 rfl (by decide) (by decide) rfl (by omega) (by decide) (by decide) dX5_init_25 (M' := (.inr (5, [.ref (b + 1), .ref (b + 2), .null, .null, .int 0, .int 0, .int 0, .int 0, .int 0, .int 0]) :: (([ra0 G 2 8] ++ [ra0 G 3 10]) ++ [ra0 G 4 60]))) rfl ?_
  refine kb_sum 3 78 rfl rfl ?_
  refine kb_putF C hnm 5 0 2 tyX5 rfl inA5 tyX5_ok nmX5 (by decide) wf_X5_25 rfl rfl rfl (tyX5_ok 2 (by decide)) rfl rfl rfl (Nat.le_of_ble_eq_true rfl) dX5_init_28 (M' := (.inr (5, [.ref (b + 1), .ref (b + 2), .ref (b + 3), .null, .int 0, .int 0, .int 0, .int 0, .int 0, .int 0]) :: (([ra0 G 2 8] ++ [ra0 G 3 10]) ++ [ra0 G 4 60]))) rfl ?_
  refine kb_aload_n C dX5_init_31 rfl rfl ?_
  refine kb_fees C rfl dX5_init_32 ?_
  refine kb_feelen C dX5_init_35 ?_
  refine kb_newa C 0 4 4 (atype := .int) (ty := .int) rfl wr_int rfl rfl (by decide) (by decide) rfl (by omega) (by decide) (by decide) dX5_init_36 (M' := (.inr (5, [.ref (b + 1), .ref (b + 2), .ref (b + 3), .null, .int 0, .int 0, .int 0, .int 0, .int 0, .int 0]) :: ((([ra0 G 2 8] ++ [ra0 G 3 10]) ++ [ra0 G 4 60]) ++ [zi G 4]))) rfl ?_
  refine kb_sum 4 82 rfl rfl ?_
  refine kb_putF C hnm 5 0 3 tyX5 rfl inA5 tyX5_ok nmX5 (by decide) wf_X5_33 rfl rfl rfl (tyX5_ok 3 (by decide)) rfl rfl rfl (Nat.le_of_ble_eq_true rfl) dX5_init_38 (M' := (.inr (5, [.ref (b + 1), .ref (b + 2), .ref (b + 3), .ref (b + 4), .int 0, .int 0, .int 0, .int 0, .int 0, .int 0]) :: ((([ra0 G 2 8] ++ [ra0 G 3 10]) ++ [ra0 G 4 60]) ++ [zi G 4]))) rfl ?_
  refine kb_aload_n C dX5_init_41 rfl rfl ?_
  refine kb_iconst C (v := 0) dX5_init_42 ki_0 ?_
  refine kb_put C 5 0 4 tyX5 rfl inA5 tyX5_ok nmX5 (by decide) wf_X5_36 rfl rfl (tyX5_ok 4 (by decide)) rfl rfl rfl (Nat.le_of_ble_eq_true rfl) dX5_init_43 (M' := (.inr (5, [.ref (b + 1), .ref (b + 2), .ref (b + 3), .ref (b + 4), .int 0, .int 0, .int 0, .int 0, .int 0, .int 0]) :: ((([ra0 G 2 8] ++ [ra0 G 3 10]) ++ [ra0 G 4 60]) ++ [zi G 4]))) rfl ?_
  refine kb_aload_n C dX5_init_46 rfl rfl ?_
  refine kb_iconst C (v := 0) dX5_init_47 ki_0 ?_
  refine kb_put C 5 0 5 tyX5 rfl inA5 tyX5_ok nmX5 (by decide) wf_X5_40 rfl rfl (tyX5_ok 5 (by decide)) rfl rfl rfl (Nat.le_of_ble_eq_true rfl) dX5_init_48 (M' := (.inr (5, [.ref (b + 1), .ref (b + 2), .ref (b + 3), .ref (b + 4), .int 0, .int 0, .int 0, .int 0, .int 0, .int 0]) :: ((([ra0 G 2 8] ++ [ra0 G 3 10]) ++ [ra0 G 4 60]) ++ [zi G 4]))) rfl ?_
  refine kb_aload_n C dX5_init_51 rfl rfl ?_
  refine kb_iconst C (v := 0) dX5_init_52 ki_0 ?_
  refine kb_put C 5 0 6 tyX5 rfl inA5 tyX5_ok nmX5 (by decide) wf_X5_43 rfl rfl (tyX5_ok 6 (by decide)) rfl rfl rfl (Nat.le_of_ble_eq_true rfl) dX5_init_53 (M' := (.inr (5, [.ref (b + 1), .ref (b + 2), .ref (b + 3), .ref (b + 4), .int 0, .int 0, .int 0, .int 0, .int 0, .int 0]) :: ((([ra0 G 2 8] ++ [ra0 G 3 10]) ++ [ra0 G 4 60]) ++ [zi G 4]))) rfl ?_
  refine kb_aload_n C dX5_init_56 rfl rfl ?_
  refine kb_iconst C (v := 0) dX5_init_57 ki_0 ?_
  refine kb_put C 5 0 7 tyX5 rfl inA5 tyX5_ok nmX5 (by decide) wf_X5_46 rfl rfl (tyX5_ok 7 (by decide)) rfl rfl rfl (Nat.le_of_ble_eq_true rfl) dX5_init_58 (M' := (.inr (5, [.ref (b + 1), .ref (b + 2), .ref (b + 3), .ref (b + 4), .int 0, .int 0, .int 0, .int 0, .int 0, .int 0]) :: ((([ra0 G 2 8] ++ [ra0 G 3 10]) ++ [ra0 G 4 60]) ++ [zi G 4]))) rfl ?_
  refine kb_aload_n C dX5_init_61 rfl rfl ?_
  refine kb_iconst C (v := 0) dX5_init_62 ki_0 ?_
  refine kb_put C 5 0 8 tyX5 rfl inA5 tyX5_ok nmX5 (by decide) wf_X5_49 rfl rfl (tyX5_ok 8 (by decide)) rfl rfl rfl (Nat.le_of_ble_eq_true rfl) dX5_init_63 (M' := (.inr (5, [.ref (b + 1), .ref (b + 2), .ref (b + 3), .ref (b + 4), .int 0, .int 0, .int 0, .int 0, .int 0, .int 0]) :: ((([ra0 G 2 8] ++ [ra0 G 3 10]) ++ [ra0 G 4 60]) ++ [zi G 4]))) rfl ?_
  refine kb_aload_n C dX5_init_66 rfl rfl ?_
  refine kb_iconst C (v := 5) dX5_init_67 ki_5 ?_
  refine kb_put C 5 0 9 tyX5 rfl inA5 tyX5_ok nmX5 (by decide) wf_X5_52 rfl rfl (tyX5_ok 9 (by decide)) rfl rfl rfl (Nat.le_of_ble_eq_true rfl) dX5_init_68 (M' := (.inr (5, [.ref (b + 1), .ref (b + 2), .ref (b + 3), .ref (b + 4), .int 0, .int 0, .int 0, .int 0, .int 0, .int 5]) :: ((([ra0 G 2 8] ++ [ra0 G 3 10]) ++ [ra0 G 4 60]) ++ [zi G 4]))) rfl ?_
  refine kb_iconst C (v := nI 0) dX5_init_71 (by decide +kernel) ?_
  refine kb_istore_n C dX5_init_72 rfl (Nat.le_of_ble_eq_true rfl) (lc1 := [some (.ref b), some (.int (nI 0))]) rfl ?_
  refine kb_fill C 5 0 1 2 3 8 5 (pre := [.inr (5, [.ref (b + 1), .ref (b + 2), .ref (b + 3), .ref (b + 4), .int 0, .int 0, .int 0, .int 0, .int 0, .int 5])]) (post := [ra0 G 3 10, ra0 G 4 60, zi G 4]) (w := 1) (v := 3) rfl inA5 (by decide) wf_X5_11 rfl rfl tyX3 rfl rfl inA3 tyX3_ok wc_X5_9 wi_X3 wn_X3 (fs := [.int 0, .int 0, .int 0]) (by decide) si_X3_init wl_X5_55 rfl (F := fun _ => [iv0]) (k_X3 G) (by decide) (fun _ => ⟨_, rfl⟩) (fun _ => rfl) rfl rfl rfl rfl rfl (by simp [List.length_append, fb_len, one_len]) (by omega) (by decide) (by decide) (by decide) dX5_init_73 dX5_init_74 dX5_init_75 dX5_init_78 dX5_init_79 dX5_init_82 dX5_init_83 dX5_init_86 dX5_init_87 dX5_init_90 dX5_init_91 dX5_init_94 dX5_init_95 dX5_init_98 ?_
  refine kb_sum 12 106 rfl rfl ?_
  refine kb_iconst C (v := nI 0) dX5_init_101 (by decide +kernel) ?_
  refine kb_istore_n C dX5_init_102 rfl (Nat.le_of_ble_eq_true rfl) (lc1 := [some (.ref b), some (.int (nI 0))]) rfl ?_
  refine kb_fill C 5 1 2 3 4 10 13 (pre := [.inr (5, [.ref (b + 1), .ref (b + 2), .ref (b + 3), .ref (b + 4), .int 0, .int 0, .int 0, .int 0, .int 0, .int 5]), ran G 2 8 (b + 5) 1 8]) (post := ([ra0 G 4 60, zi G 4] ++ fillB (fun _ => [iv0]) (b + 5) 1 8)) (w := 1) (v := 11) rfl inA5 (by decide) wf_X5_19 rfl rfl tyX4 rfl rfl inA4 tyX4_ok wc_X5_17 wi_X4 wn_X4 (fs := [.int 0, .int 0, .int 0, .int 0, .int 0, .int 0, .int 0, .int 0, .int 0, .int 0, .int 0]) (by decide) si_X4_init wl_X5_56 rfl (F := fun _ => [lo0]) (k_X4 G) (by decide) (fun _ => ⟨_, rfl⟩) (fun _ => rfl) rfl rfl rfl rfl rfl (by simp [List.length_append, fb_len, one_len]) (by omega) (by decide) (by decide) (by decide) dX5_init_103 dX5_init_104 dX5_init_105 dX5_init_108 dX5_init_109 dX5_init_112 dX5_init_113 dX5_init_116 dX5_init_117 dX5_init_120 dX5_init_121 dX5_init_124 dX5_init_125 dX5_init_128 ?_
  refine kb_sum 22 216 rfl rfl ?_
  refine kb_iconst C (v := nI 0) dX5_init_131 (by decide +kernel) ?_
  refine kb_istore_n C dX5_init_132 rfl (Nat.le_of_ble_eq_true rfl) (lc1 := [some (.ref b), some (.int (nI 0))]) rfl ?_
  refine kb_fill C 5 2 3 4 6 60 23 (pre := [.inr (5, [.ref (b + 1), .ref (b + 2), .ref (b + 3), .ref (b + 4), .int 0, .int 0, .int 0, .int 0, .int 0, .int 5]), ran G 2 8 (b + 5) 1 8, ran G 3 10 (b + 13) 1 10]) (post := (([zi G 4] ++ fillB (fun _ => [iv0]) (b + 5) 1 8) ++ fillB (fun _ => [lo0]) (b + 13) 1 10)) (w := 1) (v := 7) rfl inA5 (by decide) wf_X5_25 rfl rfl tyX6 rfl rfl inA6 tyX6_ok wc_X5_23 wi_X6 wn_X6 (fs := [.int 0, .int 0, .int 0, .int 0, .int 0, .int 0, .int 0]) (by decide) si_X6_init wl_X5_57 rfl (F := fun _ => [no0]) (k_X6 G) (by decide) (fun _ => ⟨_, rfl⟩) (fun _ => rfl) rfl rfl rfl rfl rfl (by simp [List.length_append, fb_len, one_len]) (by omega) (by decide) (by decide) (by decide) dX5_init_133 dX5_init_134 dX5_init_135 dX5_init_138 dX5_init_139 dX5_init_142 dX5_init_143 dX5_init_146 dX5_init_147 dX5_init_150 dX5_init_151 dX5_init_154 dX5_init_155 dX5_init_158 ?_
  refine kb_sum 82 636 rfl rfl ?_
  exact kb_ret C dX5_init_161 rfl rfl rfl
set_option maxRecDepth 20000 in
set_option maxHeartbeats 4000000 in
theorem k_X2 (G : Gm) : Clk G 3 333 2588 m_X2_init hs0 (hsM G) := by
  refine Clk.mk (cc := cX2_init) (own := RX2) (nL := 2) rfl rfl rfl rfl (by decide) rfl (by decide) (fun X b C hnm hz => ?_)
  have hO := C.2.1
  show Vb X G _ b [hs0] 0 0 0 [some (.ref b), none] []
  refine kb_aload_n C dX2_init_0 rfl rfl ?_
  refine kb_obj C wl_X2_3 wo_1 wo_2 rfl (by decide) (Nat.le_of_ble_eq_true rfl) dX2_init_1 ?_
  refine kb_aload_n C dX2_init_4 rfl rfl ?_
  refine kb_iconst C (v := nI 4) dX2_init_5 (by decide +kernel) ?_
  refine kb_anew C 5 4 1 wc_X2_9 hO.2.2.2.1 rfl (by decide) (by decide) rfl (by omega) (by decide) (by decide) dX2_init_6 (M' := (.inr (2, [.null, .int 0]) :: [ra0 G 5 4])) rfl ?_
  refine kb_sum 1 4 rfl rfl ?_
  refine kb_putF C hnm 2 0 0 tyX2 rfl inA2 tyX2_ok nmX2 (by decide) wf_X2_11 rfl rfl rfl (tyX2_ok 0 (by decide)) rfl rfl rfl (Nat.le_of_ble_eq_true rfl) dX2_init_9 (M' := (.inr (2, [.ref (b + 1), .int 0]) :: [ra0 G 5 4])) rfl ?_
  refine kb_aload_n C dX2_init_12 rfl rfl ?_
  refine kb_iconst C (v := 0) dX2_init_13 ki_0 ?_
  refine kb_put C 2 0 1 tyX2 rfl inA2 tyX2_ok nmX2 (by decide) wf_X2_17 rfl rfl (tyX2_ok 1 (by decide)) rfl rfl rfl (Nat.le_of_ble_eq_true rfl) dX2_init_14 (M' := (.inr (2, [.ref (b + 1), .int 0]) :: [ra0 G 5 4])) rfl ?_
  refine kb_iconst C (v := nI 0) dX2_init_17 (by decide +kernel) ?_
  refine kb_istore_n C dX2_init_18 rfl (Nat.le_of_ble_eq_true rfl) (lc1 := [some (.ref b), some (.int (nI 0))]) rfl ?_
  refine kb_fill C 2 0 1 5 5 4 2 (pre := [.inr (2, [.ref (b + 1), .int 0])]) (post := []) (w := 83) (v := 646) rfl inA2 (by decide) wf_X2_11 rfl rfl tyX5 rfl rfl inA5 tyX5_ok wc_X2_9 wi_X5 wn_X5 (fs := [.null, .null, .null, .null, .int 0, .int 0, .int 0, .int 0, .int 0, .int 0]) (by decide) si_X5_init wl_X2_21 rfl (F := mkM G) (k_X5 G) (by decide) (fun _ => ⟨_, rfl⟩) (fun _ => mkM_len) rfl rfl rfl rfl rfl (by simp [List.length_append, fb_len, one_len]) (by omega) (by decide) (by decide) (by decide) dX2_init_19 dX2_init_20 dX2_init_21 dX2_init_24 dX2_init_25 dX2_init_28 dX2_init_29 dX2_init_32 dX2_init_33 dX2_init_36 dX2_init_37 dX2_init_40 dX2_init_41 dX2_init_44 ?_
  refine kb_sum 333 2588 rfl rfl ?_
  exact kb_ret C dX2_init_47 rfl rfl rfl
set_option maxRecDepth 20000 in
set_option maxHeartbeats 4000000 in
theorem k_X9 (G : Gm) : Clk G 4 601 4831 m_X9_init pn0 (pnM G) := by
  refine Clk.mk (cc := cX9_init) (own := RX9) (nL := 1) rfl rfl rfl rfl (by decide) rfl (by decide) (fun X b C hnm hz => ?_)
  have hO := C.2.1
  show Vb X G _ b [pn0] 0 0 0 [some (.ref b)] []
  refine kb_aload_n C dX9_init_0 rfl rfl ?_
  refine kb_obj C wl_X9_1 wo_1 wo_2 rfl (by decide) (Nat.le_of_ble_eq_true rfl) dX9_init_1 ?_
  refine kb_aload_n C dX9_init_4 rfl rfl ?_
  refine kb_new C 5 tyX5 1 rfl inA5 tyX5_ok wc_X9_7 wi_X5 wn_X5 (fs := [.null, .null, .null, .null, .int 0, .int 0, .int 0, .int 0, .int 0, .int 0]) (by decide) (by simp [List.length_append, mkM_len, hsM_len, txM_len, poM_len]) (by omega) (by decide) (by decide) dX9_init_5 (M' := (.inr (9, [.null, .null, .null, .int 0, .null, .null, .null, .null]) :: [mk0])) rfl ?_
  refine kb_sum 1 10 rfl rfl ?_
  refine kb_dup C dX9_init_8 ?_
  refine kb_call C 1 (E := (.inr (9, [.null, .null, .null, .int 0, .null, .null, .null, .null]) :: [])) si_X5_init wl_X9_9 rfl (k_X5 G) (by decide) (by simp [List.length_append, mkM_len, hsM_len, txM_len, poM_len]) rfl (by omega) (by decide) (by decide) rfl (Nat.le_of_ble_eq_true rfl) dX9_init_9 (M' := (.inr (9, [.null, .null, .null, .int 0, .null, .null, .null, .null]) :: mkM G (b + 1))) rfl ?_
  refine kb_sum 83 646 rfl rfl ?_
  refine kb_putF C hnm 9 0 0 tyX9 rfl inA9 tyX9_ok nmX9 (by decide) wf_X9_10 rfl rfl rfl (tyX9_ok 0 (by decide)) rfl rfl rfl (Nat.le_of_ble_eq_true rfl) dX9_init_12 (M' := (.inr (9, [.ref (b + 1), .null, .null, .int 0, .null, .null, .null, .null]) :: mkM G (b + 1))) rfl ?_
  refine kb_aload_n C dX9_init_15 rfl rfl ?_
  refine kb_new C 5 tyX5 84 rfl inA5 tyX5_ok wc_X9_7 wi_X5 wn_X5 (fs := [.null, .null, .null, .null, .int 0, .int 0, .int 0, .int 0, .int 0, .int 0]) (by decide) (by simp [List.length_append, mkM_len, hsM_len, txM_len, poM_len]) (by omega) (by decide) (by decide) dX9_init_16 (M' := (.inr (9, [.ref (b + 1), .null, .null, .int 0, .null, .null, .null, .null]) :: (mkM G (b + 1) ++ [mk0]))) rfl ?_
  refine kb_sum 84 656 rfl rfl ?_
  refine kb_dup C dX9_init_19 ?_
  refine kb_call C 84 (E := (.inr (9, [.ref (b + 1), .null, .null, .int 0, .null, .null, .null, .null]) :: mkM G (b + 1))) si_X5_init wl_X9_9 rfl (k_X5 G) (by decide) (by simp [List.length_append, mkM_len, hsM_len, txM_len, poM_len]) rfl (by omega) (by decide) (by decide) rfl (Nat.le_of_ble_eq_true rfl) dX9_init_20 (M' := (.inr (9, [.ref (b + 1), .null, .null, .int 0, .null, .null, .null, .null]) :: (mkM G (b + 1) ++ mkM G (b + 84)))) rfl ?_
  refine kb_sum 166 1292 rfl rfl ?_
  refine kb_putF C hnm 9 0 1 tyX9 rfl inA9 tyX9_ok nmX9 (by decide) wf_X9_16 rfl rfl rfl (tyX9_ok 1 (by decide)) rfl rfl rfl (Nat.le_of_ble_eq_true rfl) dX9_init_23 (M' := (.inr (9, [.ref (b + 1), .ref (b + 84), .null, .int 0, .null, .null, .null, .null]) :: (mkM G (b + 1) ++ mkM G (b + 84)))) rfl ?_
  refine kb_aload_n C dX9_init_26 rfl rfl ?_
  refine kb_new C 5 tyX5 167 rfl inA5 tyX5_ok wc_X9_7 wi_X5 wn_X5 (fs := [.null, .null, .null, .null, .int 0, .int 0, .int 0, .int 0, .int 0, .int 0]) (by decide) (by simp [List.length_append, mkM_len, hsM_len, txM_len, poM_len]) (by omega) (by decide) (by decide) dX9_init_27 (M' := (.inr (9, [.ref (b + 1), .ref (b + 84), .null, .int 0, .null, .null, .null, .null]) :: ((mkM G (b + 1) ++ mkM G (b + 84)) ++ [mk0]))) rfl ?_
  refine kb_sum 167 1302 rfl rfl ?_
  refine kb_dup C dX9_init_30 ?_
  refine kb_call C 167 (E := (.inr (9, [.ref (b + 1), .ref (b + 84), .null, .int 0, .null, .null, .null, .null]) :: (mkM G (b + 1) ++ mkM G (b + 84)))) si_X5_init wl_X9_9 rfl (k_X5 G) (by decide) (by simp [List.length_append, mkM_len, hsM_len, txM_len, poM_len]) rfl (by omega) (by decide) (by decide) rfl (Nat.le_of_ble_eq_true rfl) dX9_init_31 (M' := (.inr (9, [.ref (b + 1), .ref (b + 84), .null, .int 0, .null, .null, .null, .null]) :: ((mkM G (b + 1) ++ mkM G (b + 84)) ++ mkM G (b + 167)))) rfl ?_
  refine kb_sum 249 1938 rfl rfl ?_
  refine kb_putF C hnm 9 0 2 tyX9 rfl inA9 tyX9_ok nmX9 (by decide) wf_X9_19 rfl rfl rfl (tyX9_ok 2 (by decide)) rfl rfl rfl (Nat.le_of_ble_eq_true rfl) dX9_init_34 (M' := (.inr (9, [.ref (b + 1), .ref (b + 84), .ref (b + 167), .int 0, .null, .null, .null, .null]) :: ((mkM G (b + 1) ++ mkM G (b + 84)) ++ mkM G (b + 167)))) rfl ?_
  refine kb_aload_n C dX9_init_37 rfl rfl ?_
  refine kb_iconst C (v := 0) dX9_init_38 ki_0 ?_
  refine kb_put C 9 0 3 tyX9 rfl inA9 tyX9_ok nmX9 (by decide) wf_X9_22 rfl rfl (tyX9_ok 3 (by decide)) (nar01 (Or.inl rfl)) (fit01 (Or.inl rfl)) rfl (Nat.le_of_ble_eq_true rfl) dX9_init_39 (M' := (.inr (9, [.ref (b + 1), .ref (b + 84), .ref (b + 167), .int 0, .null, .null, .null, .null]) :: ((mkM G (b + 1) ++ mkM G (b + 84)) ++ mkM G (b + 167)))) rfl ?_
  refine kb_aload_n C dX9_init_42 rfl rfl ?_
  refine kb_new C 2 tyX2 250 rfl inA2 tyX2_ok wc_X9_26 wi_X2 wn_X2 (fs := [.null, .int 0]) (by decide) (by simp [List.length_append, mkM_len, hsM_len, txM_len, poM_len]) (by omega) (by decide) (by decide) dX9_init_43 (M' := (.inr (9, [.ref (b + 1), .ref (b + 84), .ref (b + 167), .int 0, .null, .null, .null, .null]) :: (((mkM G (b + 1) ++ mkM G (b + 84)) ++ mkM G (b + 167)) ++ [hs0]))) rfl ?_
  refine kb_sum 250 1940 rfl rfl ?_
  refine kb_dup C dX9_init_46 ?_
  refine kb_call C 250 (E := (.inr (9, [.ref (b + 1), .ref (b + 84), .ref (b + 167), .int 0, .null, .null, .null, .null]) :: ((mkM G (b + 1) ++ mkM G (b + 84)) ++ mkM G (b + 167)))) si_X2_init wl_X9_28 rfl (k_X2 G) (by decide) (by simp [List.length_append, mkM_len, hsM_len, txM_len, poM_len]) rfl (by omega) (by decide) (by decide) rfl (Nat.le_of_ble_eq_true rfl) dX9_init_47 (M' := (.inr (9, [.ref (b + 1), .ref (b + 84), .ref (b + 167), .int 0, .null, .null, .null, .null]) :: (((mkM G (b + 1) ++ mkM G (b + 84)) ++ mkM G (b + 167)) ++ hsM G (b + 250)))) rfl ?_
  refine kb_sum 583 4528 rfl rfl ?_
  refine kb_putF C hnm 9 0 4 tyX9 rfl inA9 tyX9_ok nmX9 (by decide) wf_X9_29 rfl rfl rfl (tyX9_ok 4 (by decide)) rfl rfl rfl (Nat.le_of_ble_eq_true rfl) dX9_init_50 (M' := (.inr (9, [.ref (b + 1), .ref (b + 84), .ref (b + 167), .int 0, .ref (b + 250), .null, .null, .null]) :: (((mkM G (b + 1) ++ mkM G (b + 84)) ++ mkM G (b + 167)) ++ hsM G (b + 250)))) rfl ?_
  refine kb_aload_n C dX9_init_53 rfl rfl ?_
  refine kb_new C 1 tyX1 584 rfl inA1 tyX1_ok wc_X9_33 wi_X1 wn_X1 (fs := [.null, .int 0, .null, .int 0]) (by decide) (by simp [List.length_append, mkM_len, hsM_len, txM_len, poM_len]) (by omega) (by decide) (by decide) dX9_init_54 (M' := (.inr (9, [.ref (b + 1), .ref (b + 84), .ref (b + 167), .int 0, .ref (b + 250), .null, .null, .null]) :: ((((mkM G (b + 1) ++ mkM G (b + 84)) ++ mkM G (b + 167)) ++ hsM G (b + 250)) ++ [tx0]))) rfl ?_
  refine kb_sum 584 4532 rfl rfl ?_
  refine kb_dup C dX9_init_57 ?_
  refine kb_call C 584 (E := (.inr (9, [.ref (b + 1), .ref (b + 84), .ref (b + 167), .int 0, .ref (b + 250), .null, .null, .null]) :: (((mkM G (b + 1) ++ mkM G (b + 84)) ++ mkM G (b + 167)) ++ hsM G (b + 250)))) si_X1_init wl_X9_35 rfl (k_X1 G) (by decide) (by simp [List.length_append, mkM_len, hsM_len, txM_len, poM_len]) rfl (by omega) (by decide) (by decide) rfl (Nat.le_of_ble_eq_true rfl) dX9_init_58 (M' := (.inr (9, [.ref (b + 1), .ref (b + 84), .ref (b + 167), .int 0, .ref (b + 250), .null, .null, .null]) :: ((((mkM G (b + 1) ++ mkM G (b + 84)) ++ mkM G (b + 167)) ++ hsM G (b + 250)) ++ txM G (b + 584)))) rfl ?_
  refine kb_sum 596 4642 rfl rfl ?_
  refine kb_putF C hnm 9 0 5 tyX9 rfl inA9 tyX9_ok nmX9 (by decide) wf_X9_36 rfl rfl rfl (tyX9_ok 5 (by decide)) rfl rfl rfl (Nat.le_of_ble_eq_true rfl) dX9_init_61 (M' := (.inr (9, [.ref (b + 1), .ref (b + 84), .ref (b + 167), .int 0, .ref (b + 250), .ref (b + 584), .null, .null]) :: ((((mkM G (b + 1) ++ mkM G (b + 84)) ++ mkM G (b + 167)) ++ hsM G (b + 250)) ++ txM G (b + 584)))) rfl ?_
  refine kb_aload_n C dX9_init_64 rfl rfl ?_
  refine kb_new C 7 tyX7 597 rfl inA7 tyX7_ok wc_X9_40 wi_X7 wn_X7 (fs := [.int 0, .int 0, .int 0, .int 0, .int 0, .int 0]) (by decide) (by simp [List.length_append, mkM_len, hsM_len, txM_len, poM_len]) (by omega) (by decide) (by decide) dX9_init_65 (M' := (.inr (9, [.ref (b + 1), .ref (b + 84), .ref (b + 167), .int 0, .ref (b + 250), .ref (b + 584), .null, .null]) :: (((((mkM G (b + 1) ++ mkM G (b + 84)) ++ mkM G (b + 167)) ++ hsM G (b + 250)) ++ txM G (b + 584)) ++ [pt0]))) rfl ?_
  refine kb_sum 597 4648 rfl rfl ?_
  refine kb_dup C dX9_init_68 ?_
  refine kb_call C 597 (E := (.inr (9, [.ref (b + 1), .ref (b + 84), .ref (b + 167), .int 0, .ref (b + 250), .ref (b + 584), .null, .null]) :: ((((mkM G (b + 1) ++ mkM G (b + 84)) ++ mkM G (b + 167)) ++ hsM G (b + 250)) ++ txM G (b + 584)))) si_X7_init wl_X9_42 rfl (k_X7 G) (by decide) (by simp [List.length_append, mkM_len, hsM_len, txM_len, poM_len]) rfl (by omega) (by decide) (by decide) rfl (Nat.le_of_ble_eq_true rfl) dX9_init_69 (M' := (.inr (9, [.ref (b + 1), .ref (b + 84), .ref (b + 167), .int 0, .ref (b + 250), .ref (b + 584), .null, .null]) :: (((((mkM G (b + 1) ++ mkM G (b + 84)) ++ mkM G (b + 167)) ++ hsM G (b + 250)) ++ txM G (b + 584)) ++ [pt0]))) rfl ?_
  refine kb_sum 597 4648 rfl rfl ?_
  refine kb_putF C hnm 9 0 6 tyX9 rfl inA9 tyX9_ok nmX9 (by decide) wf_X9_43 rfl rfl rfl (tyX9_ok 6 (by decide)) rfl rfl rfl (Nat.le_of_ble_eq_true rfl) dX9_init_72 (M' := (.inr (9, [.ref (b + 1), .ref (b + 84), .ref (b + 167), .int 0, .ref (b + 250), .ref (b + 584), .ref (b + 597), .null]) :: (((((mkM G (b + 1) ++ mkM G (b + 84)) ++ mkM G (b + 167)) ++ hsM G (b + 250)) ++ txM G (b + 584)) ++ [pt0]))) rfl ?_
  refine kb_aload_n C dX9_init_75 rfl rfl ?_
  refine kb_new C 8 tyX8 598 rfl inA8 tyX8_ok wc_X9_47 wi_X8 wn_X8 (fs := [.null, .null, .null]) (by decide) (by simp [List.length_append, mkM_len, hsM_len, txM_len, poM_len]) (by omega) (by decide) (by decide) dX9_init_76 (M' := (.inr (9, [.ref (b + 1), .ref (b + 84), .ref (b + 167), .int 0, .ref (b + 250), .ref (b + 584), .ref (b + 597), .null]) :: ((((((mkM G (b + 1) ++ mkM G (b + 84)) ++ mkM G (b + 167)) ++ hsM G (b + 250)) ++ txM G (b + 584)) ++ [pt0]) ++ [po0]))) rfl ?_
  refine kb_sum 598 4651 rfl rfl ?_
  refine kb_dup C dX9_init_79 ?_
  refine kb_call C 598 (E := (.inr (9, [.ref (b + 1), .ref (b + 84), .ref (b + 167), .int 0, .ref (b + 250), .ref (b + 584), .ref (b + 597), .null]) :: (((((mkM G (b + 1) ++ mkM G (b + 84)) ++ mkM G (b + 167)) ++ hsM G (b + 250)) ++ txM G (b + 584)) ++ [pt0]))) si_X8_init wl_X9_49 rfl (k_X8 G) (by decide) (by simp [List.length_append, mkM_len, hsM_len, txM_len, poM_len]) rfl (by omega) (by decide) (by decide) rfl (Nat.le_of_ble_eq_true rfl) dX9_init_80 (M' := (.inr (9, [.ref (b + 1), .ref (b + 84), .ref (b + 167), .int 0, .ref (b + 250), .ref (b + 584), .ref (b + 597), .null]) :: ((((((mkM G (b + 1) ++ mkM G (b + 84)) ++ mkM G (b + 167)) ++ hsM G (b + 250)) ++ txM G (b + 584)) ++ [pt0]) ++ poM G (b + 598)))) rfl ?_
  refine kb_sum 601 4831 rfl rfl ?_
  refine kb_putF C hnm 9 0 7 tyX9 rfl inA9 tyX9_ok nmX9 (by decide) wf_X9_50 rfl rfl rfl (tyX9_ok 7 (by decide)) rfl rfl rfl (Nat.le_of_ble_eq_true rfl) dX9_init_83 (M' := (.inr (9, [.ref (b + 1), .ref (b + 84), .ref (b + 167), .int 0, .ref (b + 250), .ref (b + 584), .ref (b + 597), .ref (b + 598)]) :: ((((((mkM G (b + 1) ++ mkM G (b + 84)) ++ mkM G (b + 167)) ++ hsM G (b + 250)) ++ txM G (b + 584)) ++ [pt0]) ++ poM G (b + 598)))) rfl ?_
  exact kb_ret C dX9_init_86 rfl rfl rfl
