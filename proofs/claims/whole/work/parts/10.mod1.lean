/-! by program (wip/whole/walk.py): X10_in X10_of X10_be X10_ofNote X10_more X10_isInvestor X10_isLoan X10_isNote X10_isServicer X10_runs X10_feeOf X10_aside X10_putBack X10_acted X10_payOut X10_addInvestor X10_deposit X10_setPoolShare X10_openLoan X10_principals X10_missing X10_upwards X10_funds X10_fund X10_ends -/
def dc_X10_in (a0 : Int32) (a1 : Int32) (a2 : Int32) (σ : Sto) : Option (Int32 × Sto) :=
  (if a0 < a1 then some ((0 : Int32), σ) else (if a2 < a0 then some ((0 : Int32), σ) else some ((1 : Int32), σ)))
set_option maxRecDepth 20000 in
set_option maxHeartbeats 4000000 in
theorem s_X10_in {G : Gm} {d : Nat} (a0 : Int32) (a1 : Int32) (a2 : Int32) {σ τ : Sto} {r : Int32} (h : dc_X10_in a0 a1 a2 σ = some (r, τ)) : Cl G d m_X10_in [.int a0, .int a1, .int a2] σ (some (.int r)) τ := by
  unfold dc_X10_in at h
  refine Cl.mk (cc := cX10_in) (own := RX10) (nL := 3) (ret := (some .boolean)) rfl rfl rfl rfl (by decide +kernel) (catA rfl) (Nat.le_of_ble_eq_true rfl) (fun X C => ?_)
  show V X G 0 0 (QE X G (some (.int r)) τ) σ 0 [some (.int a0), some (.int a1), some (.int a2)] []
  refine v_iload_n C dX10_in_0 rfl rfl ?_
  refine v_iload_n C dX10_in_1 rfl rfl ?_
  refine v_icmp_lt C dX10_in_2 (tgt := 14) (by decide) h (fun h => ?_) (fun h => ?_)
  · refine v_iconst C dX10_in_14 ki_0 ?_
    exact v_zretc C dX10_in_15 (nar01 (Or.inl rfl)) h
  · refine v_iload_n C dX10_in_5 rfl rfl ?_
    refine v_iload_n C dX10_in_6 rfl rfl ?_
    refine v_icmp_gt C dX10_in_7 (tgt := 14) (by decide) h (fun h => ?_) (fun h => ?_)
    · refine v_iconst C dX10_in_14 ki_0 ?_
      exact v_zretc C dX10_in_15 (nar01 (Or.inl rfl)) h
    · refine v_iconst C dX10_in_10 ki_1 ?_
      refine v_goto C dX10_in_11 (tgt := 15) (by decide) ?_
      exact v_zretc C dX10_in_15 (nar01 (Or.inr rfl)) h

def dc_X10_of (a1 : Int32) (a2 : Int32) (σ : Sto) : Option (Int32 × Sto) :=
  (if inb (((34 : Int32) + ((11 : Int32) * a1)) + a2) 564 then some (σ.1 304 0 (((34 : Int32) + ((11 : Int32) * a1)) + a2).toNatClampNeg, σ) else none)
set_option maxRecDepth 20000 in
set_option maxHeartbeats 4000000 in
theorem s_X10_of {G : Gm} {d : Nat} (a1 : Int32) (a2 : Int32) {σ τ : Sto} {r : Int32} (h : dc_X10_of a1 a2 σ = some (r, τ)) : Cl G d m_X10_of [.ref (ad G 10 0 0), .int a1, .int a2] σ (some (.int r)) τ := by
  unfold dc_X10_of at h
  refine Cl.mk (cc := cX10_of) (own := RX10) (nL := 3) (ret := (some .int)) rfl rfl rfl rfl (by decide +kernel) (catA rfl) (Nat.le_of_ble_eq_true rfl) (fun X C => ?_)
  show V X G 0 0 (QE X G (some (.int r)) τ) σ 0 [some (.ref (ad G 10 0 0)), some (.int a1), some (.int a2)] []
  refine v_aload_n C dX10_of_0 rfl rfl ?_
  refine gf_X10_13 C dX10_of_1 ?_
  refine v_bipush C dX10_of_4 kb_34 ?_
  refine v_bipush C dX10_of_6 kb_11 ?_
  refine v_iload_n C dX10_of_8 rfl rfl ?_
  refine v_imul C dX10_of_9 ?_
  refine v_iadd C dX10_of_10 ?_
  refine v_iload_n C dX10_of_11 rfl rfl ?_
  refine v_iadd C dX10_of_12 ?_
  refine ld_19 C dX10_of_13 h (fun h => ?_)
  exact v_iret C dX10_of_14 h

def dc_X10_be (a1 : Int32) (a2 : Int32) (a3 : Int32) (σ : Sto) : Option Sto :=
  (if inb (((34 : Int32) + ((11 : Int32) * a1)) + a2) 564 then some (up σ 304 0 (((34 : Int32) + ((11 : Int32) * a1)) + a2).toNatClampNeg a3) else none)
set_option maxRecDepth 20000 in
set_option maxHeartbeats 4000000 in
theorem s_X10_be {G : Gm} {d : Nat} (a1 : Int32) (a2 : Int32) (a3 : Int32) {σ τ : Sto} (h : dc_X10_be a1 a2 a3 σ = some τ) : Cl G d m_X10_be [.ref (ad G 10 0 0), .int a1, .int a2, .int a3] σ none τ := by
  unfold dc_X10_be at h
  refine Cl.mk (cc := cX10_be) (own := RX10) (nL := 4) (ret := none) rfl rfl rfl rfl (by decide +kernel) (catA rfl) (Nat.le_of_ble_eq_true rfl) (fun X C => ?_)
  show V X G 0 0 (QE X G none τ) σ 0 [some (.ref (ad G 10 0 0)), some (.int a1), some (.int a2), some (.int a3)] []
  refine v_aload_n C dX10_be_0 rfl rfl ?_
  refine gf_X10_13 C dX10_be_1 ?_
  refine v_bipush C dX10_be_4 kb_34 ?_
  refine v_bipush C dX10_be_6 kb_11 ?_
  refine v_iload_n C dX10_be_8 rfl rfl ?_
  refine v_imul C dX10_be_9 ?_
  refine v_iadd C dX10_be_10 ?_
  refine v_iload_n C dX10_be_11 rfl rfl ?_
  refine v_iadd C dX10_be_12 ?_
  refine v_iload_n C dX10_be_13 rfl rfl ?_
  refine as_19 C dX10_be_14 h (fun h => ?_)
  exact v_vret C dX10_be_15 h

def dc_X10_ofNote (a1 : Int32) (a2 : Int32) (σ : Sto) : Option (Int32 × Sto) :=
  (if inb (((144 : Int32) + ((7 : Int32) * a1)) + a2) 564 then some (σ.1 304 0 (((144 : Int32) + ((7 : Int32) * a1)) + a2).toNatClampNeg, σ) else none)
set_option maxRecDepth 20000 in
set_option maxHeartbeats 4000000 in
theorem s_X10_ofNote {G : Gm} {d : Nat} (a1 : Int32) (a2 : Int32) {σ τ : Sto} {r : Int32} (h : dc_X10_ofNote a1 a2 σ = some (r, τ)) : Cl G d m_X10_ofNote [.ref (ad G 10 0 0), .int a1, .int a2] σ (some (.int r)) τ := by
  unfold dc_X10_ofNote at h
  refine Cl.mk (cc := cX10_ofNote) (own := RX10) (nL := 3) (ret := (some .int)) rfl rfl rfl rfl (by decide +kernel) (catA rfl) (Nat.le_of_ble_eq_true rfl) (fun X C => ?_)
  show V X G 0 0 (QE X G (some (.int r)) τ) σ 0 [some (.ref (ad G 10 0 0)), some (.int a1), some (.int a2)] []
  refine v_aload_n C dX10_ofNote_0 rfl rfl ?_
  refine gf_X10_13 C dX10_ofNote_1 ?_
  refine v_sipush C dX10_ofNote_4 ks_144 ?_
  refine v_bipush C dX10_ofNote_7 kb_7 ?_
  refine v_iload_n C dX10_ofNote_9 rfl rfl ?_
  refine v_imul C dX10_ofNote_10 ?_
  refine v_iadd C dX10_ofNote_11 ?_
  refine v_iload_n C dX10_ofNote_12 rfl rfl ?_
  refine v_iadd C dX10_ofNote_13 ?_
  refine ld_19 C dX10_ofNote_14 h (fun h => ?_)
  exact v_iret C dX10_ofNote_15 h

def dc_X10_more (a1 : Int32) (a2 : Int32) (a3 : Int32) (σ : Sto) : Option Sto :=
  (if inb (((144 : Int32) + ((7 : Int32) * a1)) + a2) 564 then (if inb (((144 : Int32) + ((7 : Int32) * a1)) + a2) 564 then some (up σ 304 0 (((144 : Int32) + ((7 : Int32) * a1)) + a2).toNatClampNeg ((σ.1 304 0 (((144 : Int32) + ((7 : Int32) * a1)) + a2).toNatClampNeg) + a3)) else none) else none)
set_option maxRecDepth 20000 in
set_option maxHeartbeats 4000000 in
theorem s_X10_more {G : Gm} {d : Nat} (a1 : Int32) (a2 : Int32) (a3 : Int32) {σ τ : Sto} (h : dc_X10_more a1 a2 a3 σ = some τ) : Cl G d m_X10_more [.ref (ad G 10 0 0), .int a1, .int a2, .int a3] σ none τ := by
  unfold dc_X10_more at h
  refine Cl.mk (cc := cX10_more) (own := RX10) (nL := 4) (ret := none) rfl rfl rfl rfl (by decide +kernel) (catA rfl) (Nat.le_of_ble_eq_true rfl) (fun X C => ?_)
  show V X G 0 0 (QE X G none τ) σ 0 [some (.ref (ad G 10 0 0)), some (.int a1), some (.int a2), some (.int a3)] []
  refine v_aload_n C dX10_more_0 rfl rfl ?_
  refine gf_X10_13 C dX10_more_1 ?_
  refine v_sipush C dX10_more_4 ks_144 ?_
  refine v_bipush C dX10_more_7 kb_7 ?_
  refine v_iload_n C dX10_more_9 rfl rfl ?_
  refine v_imul C dX10_more_10 ?_
  refine v_iadd C dX10_more_11 ?_
  refine v_iload_n C dX10_more_12 rfl rfl ?_
  refine v_iadd C dX10_more_13 ?_
  refine v_dup2 C dX10_more_14 rfl rfl ?_
  refine ld_19 C dX10_more_15 h (fun h => ?_)
  refine v_iload_n C dX10_more_16 rfl rfl ?_
  refine v_iadd C dX10_more_17 ?_
  refine as_19 C dX10_more_18 h (fun h => ?_)
  exact v_vret C dX10_more_19 h

def dc_X10_isInvestor (a1 : Int32) (σ : Sto) : Option (Int32 × Sto) :=
  (if inb (1 : Int32) 564 then (bd (dc_X10_in a1 (0 : Int32) ((σ.1 304 0 (1 : Int32).toNatClampNeg) - (1 : Int32)) σ) fun r1 σ2 => (if r1 = 0 ∨ r1 = 1 then some (r1, σ2) else none)) else none)
set_option maxRecDepth 20000 in
set_option maxHeartbeats 4000000 in
theorem s_X10_isInvestor {G : Gm} {d : Nat} (a1 : Int32) {σ τ : Sto} {r : Int32} (h : dc_X10_isInvestor a1 σ = some (r, τ)) : Cl G (d + 1) m_X10_isInvestor [.ref (ad G 10 0 0), .int a1] σ (some (.int r)) τ := by
  unfold dc_X10_isInvestor at h
  refine Cl.mk (cc := cX10_isInvestor) (own := RX10) (nL := 2) (ret := (some .boolean)) rfl rfl rfl rfl (by decide +kernel) (catA rfl) (Nat.le_of_ble_eq_true rfl) (fun X C => ?_)
  show V X G 0 0 (QE X G (some (.int r)) τ) σ 0 [some (.ref (ad G 10 0 0)), some (.int a1)] []
  refine v_iload_n C dX10_isInvestor_0 rfl rfl ?_
  refine v_iconst C dX10_isInvestor_1 ki_0 ?_
  refine v_aload_n C dX10_isInvestor_2 rfl rfl ?_
  refine gf_X10_13 C dX10_isInvestor_3 ?_
  refine v_iconst C dX10_isInvestor_6 ki_1 ?_
  refine ld_19 C dX10_isInvestor_7 h (fun h => ?_)
  refine v_iconst C dX10_isInvestor_8 ki_1 ?_
  refine v_isub C dX10_isInvestor_9 ?_
  refine cSi C (av := [.int a1, .int (0 : Int32), .int ((σ.1 304 0 (1 : Int32).toNatClampNeg) - (1 : Int32))]) si_X10_in lk_X10_38 rfl rfl (st := []) rfl (Nat.le_of_ble_eq_true rfl) dX10_isInvestor_10 h (fun _ _ hc => s_X10_in (d := d) a1 (0 : Int32) ((σ.1 304 0 (1 : Int32).toNatClampNeg) - (1 : Int32))  hc) (fun r1 σ2 h => ?_)
  exact v_zret C dX10_isInvestor_13 h

def dc_X10_isLoan (a1 : Int32) (σ : Sto) : Option (Int32 × Sto) :=
  (if inb (2 : Int32) 564 then (bd (dc_X10_in a1 (0 : Int32) ((σ.1 304 0 (2 : Int32).toNatClampNeg) - (1 : Int32)) σ) fun r1 σ2 => (if r1 = 0 ∨ r1 = 1 then some (r1, σ2) else none)) else none)
set_option maxRecDepth 20000 in
set_option maxHeartbeats 4000000 in
theorem s_X10_isLoan {G : Gm} {d : Nat} (a1 : Int32) {σ τ : Sto} {r : Int32} (h : dc_X10_isLoan a1 σ = some (r, τ)) : Cl G (d + 1) m_X10_isLoan [.ref (ad G 10 0 0), .int a1] σ (some (.int r)) τ := by
  unfold dc_X10_isLoan at h
  refine Cl.mk (cc := cX10_isLoan) (own := RX10) (nL := 2) (ret := (some .boolean)) rfl rfl rfl rfl (by decide +kernel) (catA rfl) (Nat.le_of_ble_eq_true rfl) (fun X C => ?_)
  show V X G 0 0 (QE X G (some (.int r)) τ) σ 0 [some (.ref (ad G 10 0 0)), some (.int a1)] []
  refine v_iload_n C dX10_isLoan_0 rfl rfl ?_
  refine v_iconst C dX10_isLoan_1 ki_0 ?_
  refine v_aload_n C dX10_isLoan_2 rfl rfl ?_
  refine gf_X10_13 C dX10_isLoan_3 ?_
  refine v_iconst C dX10_isLoan_6 ki_2 ?_
  refine ld_19 C dX10_isLoan_7 h (fun h => ?_)
  refine v_iconst C dX10_isLoan_8 ki_1 ?_
  refine v_isub C dX10_isLoan_9 ?_
  refine cSi C (av := [.int a1, .int (0 : Int32), .int ((σ.1 304 0 (2 : Int32).toNatClampNeg) - (1 : Int32))]) si_X10_in lk_X10_38 rfl rfl (st := []) rfl (Nat.le_of_ble_eq_true rfl) dX10_isLoan_10 h (fun _ _ hc => s_X10_in (d := d) a1 (0 : Int32) ((σ.1 304 0 (2 : Int32).toNatClampNeg) - (1 : Int32))  hc) (fun r1 σ2 h => ?_)
  exact v_zret C dX10_isLoan_13 h

def dc_X10_isNote (a1 : Int32) (σ : Sto) : Option (Int32 × Sto) :=
  (if inb (3 : Int32) 564 then (bd (dc_X10_in a1 (0 : Int32) ((σ.1 304 0 (3 : Int32).toNatClampNeg) - (1 : Int32)) σ) fun r1 σ2 => (if r1 = 0 ∨ r1 = 1 then some (r1, σ2) else none)) else none)
set_option maxRecDepth 20000 in
set_option maxHeartbeats 4000000 in
theorem s_X10_isNote {G : Gm} {d : Nat} (a1 : Int32) {σ τ : Sto} {r : Int32} (h : dc_X10_isNote a1 σ = some (r, τ)) : Cl G (d + 1) m_X10_isNote [.ref (ad G 10 0 0), .int a1] σ (some (.int r)) τ := by
  unfold dc_X10_isNote at h
  refine Cl.mk (cc := cX10_isNote) (own := RX10) (nL := 2) (ret := (some .boolean)) rfl rfl rfl rfl (by decide +kernel) (catA rfl) (Nat.le_of_ble_eq_true rfl) (fun X C => ?_)
  show V X G 0 0 (QE X G (some (.int r)) τ) σ 0 [some (.ref (ad G 10 0 0)), some (.int a1)] []
  refine v_iload_n C dX10_isNote_0 rfl rfl ?_
  refine v_iconst C dX10_isNote_1 ki_0 ?_
  refine v_aload_n C dX10_isNote_2 rfl rfl ?_
  refine gf_X10_13 C dX10_isNote_3 ?_
  refine v_iconst C dX10_isNote_6 ki_3 ?_
  refine ld_19 C dX10_isNote_7 h (fun h => ?_)
  refine v_iconst C dX10_isNote_8 ki_1 ?_
  refine v_isub C dX10_isNote_9 ?_
  refine cSi C (av := [.int a1, .int (0 : Int32), .int ((σ.1 304 0 (3 : Int32).toNatClampNeg) - (1 : Int32))]) si_X10_in lk_X10_38 rfl rfl (st := []) rfl (Nat.le_of_ble_eq_true rfl) dX10_isNote_10 h (fun _ _ hc => s_X10_in (d := d) a1 (0 : Int32) ((σ.1 304 0 (3 : Int32).toNatClampNeg) - (1 : Int32))  hc) (fun r1 σ2 h => ?_)
  exact v_zret C dX10_isNote_13 h

def dc_X10_isServicer (a0 : Int32) (σ : Sto) : Option (Int32 × Sto) :=
  (bd (dc_X10_in a0 (0 : Int32) (3 : Int32) σ) fun r1 σ2 => (if r1 = 0 ∨ r1 = 1 then some (r1, σ2) else none))
set_option maxRecDepth 20000 in
set_option maxHeartbeats 4000000 in
theorem s_X10_isServicer {G : Gm} {d : Nat} (a0 : Int32) {σ τ : Sto} {r : Int32} (h : dc_X10_isServicer a0 σ = some (r, τ)) : Cl G (d + 1) m_X10_isServicer [.int a0] σ (some (.int r)) τ := by
  unfold dc_X10_isServicer at h
  refine Cl.mk (cc := cX10_isServicer) (own := RX10) (nL := 1) (ret := (some .boolean)) rfl rfl rfl rfl (by decide +kernel) (catA rfl) (Nat.le_of_ble_eq_true rfl) (fun X C => ?_)
  show V X G 0 0 (QE X G (some (.int r)) τ) σ 0 [some (.int a0)] []
  refine v_iload_n C dX10_isServicer_0 rfl rfl ?_
  refine v_iconst C dX10_isServicer_1 ki_0 ?_
  refine v_iconst C dX10_isServicer_2 ki_3 ?_
  refine cSi C (av := [.int a0, .int (0 : Int32), .int (3 : Int32)]) si_X10_in lk_X10_38 rfl rfl (st := []) rfl (Nat.le_of_ble_eq_true rfl) dX10_isServicer_3 h (fun _ _ hc => s_X10_in (d := d) a0 (0 : Int32) (3 : Int32)  hc) (fun r1 σ2 h => ?_)
  exact v_zret C dX10_isServicer_6 h

def dc_X10_runs (a1 : Int32) (σ : Sto) : Option (Int32 × Sto) :=
  (bd (dc_X10_of a1 (3 : Int32) σ) fun r1 σ2 => (if r1 = (1 : Int32) then some ((1 : Int32), σ2) else some ((0 : Int32), σ2)))
set_option maxRecDepth 20000 in
set_option maxHeartbeats 4000000 in
theorem s_X10_runs {G : Gm} {d : Nat} (a1 : Int32) {σ τ : Sto} {r : Int32} (h : dc_X10_runs a1 σ = some (r, τ)) : Cl G (d + 1) m_X10_runs [.ref (ad G 10 0 0), .int a1] σ (some (.int r)) τ := by
  unfold dc_X10_runs at h
  refine Cl.mk (cc := cX10_runs) (own := RX10) (nL := 2) (ret := (some .boolean)) rfl rfl rfl rfl (by decide +kernel) (catA rfl) (Nat.le_of_ble_eq_true rfl) (fun X C => ?_)
  show V X G 0 0 (QE X G (some (.int r)) τ) σ 0 [some (.ref (ad G 10 0 0)), some (.int a1)] []
  refine v_aload_n C dX10_runs_0 rfl rfl ?_
  refine v_iload_n C dX10_runs_1 rfl rfl ?_
  refine v_iconst C dX10_runs_2 ki_3 ?_
  refine cVi C 10 0 0 (av := [.int a1, .int (3 : Int32)]) si_X10_of lk_X10_42 (ok10) rfl rfl rfl rfl (st := []) rfl (Nat.le_of_ble_eq_true rfl) dX10_runs_3 h (fun _ _ hc => s_X10_of (d := d) a1 (3 : Int32)  hc) (fun r1 σ2 h => ?_)
  refine v_iconst C dX10_runs_6 ki_1 ?_
  refine v_icmp_ne C dX10_runs_7 (tgt := 14) (by decide) h (fun h => ?_) (fun h => ?_)
  · refine v_iconst C dX10_runs_14 ki_0 ?_
    exact v_zretc C dX10_runs_15 (nar01 (Or.inl rfl)) h
  · refine v_iconst C dX10_runs_10 ki_1 ?_
    refine v_goto C dX10_runs_11 (tgt := 15) (by decide) ?_
    exact v_zretc C dX10_runs_15 (nar01 (Or.inr rfl)) h

def dc_X10_feeOf (a0 : Int32) (σ : Sto) : Option (Int32 × Sto) :=
  (if a0 = 0 then some ((5 : Int32), σ) else (if a0 = (1 : Int32) then some ((10 : Int32), σ) else (if a0 = (2 : Int32) then some ((20 : Int32), σ) else some ((40 : Int32), σ))))
set_option maxRecDepth 20000 in
set_option maxHeartbeats 4000000 in
theorem s_X10_feeOf {G : Gm} {d : Nat} (a0 : Int32) {σ τ : Sto} {r : Int32} (h : dc_X10_feeOf a0 σ = some (r, τ)) : Cl G d m_X10_feeOf [.int a0] σ (some (.int r)) τ := by
  unfold dc_X10_feeOf at h
  refine Cl.mk (cc := cX10_feeOf) (own := RX10) (nL := 1) (ret := (some .int)) rfl rfl rfl rfl (by decide +kernel) (catA rfl) (Nat.le_of_ble_eq_true rfl) (fun X C => ?_)
  show V X G 0 0 (QE X G (some (.int r)) τ) σ 0 [some (.int a0)] []
  refine v_iload_n C dX10_feeOf_0 rfl rfl ?_
  refine v_if_ne C dX10_feeOf_1 (tgt := 8) (by decide) h (fun h => ?_) (fun h => ?_)
  · refine v_iload_n C dX10_feeOf_8 rfl rfl ?_
    refine v_iconst C dX10_feeOf_9 ki_1 ?_
    refine v_icmp_ne C dX10_feeOf_10 (tgt := 18) (by decide) h (fun h => ?_) (fun h => ?_)
    · refine v_iload_n C dX10_feeOf_18 rfl rfl ?_
      refine v_iconst C dX10_feeOf_19 ki_2 ?_
      refine v_icmp_ne C dX10_feeOf_20 (tgt := 28) (by decide) h (fun h => ?_) (fun h => ?_)
      · refine v_bipush C dX10_feeOf_28 kb_40 ?_
        exact v_iret C dX10_feeOf_30 h
      · refine v_bipush C dX10_feeOf_23 kb_20 ?_
        refine v_goto C dX10_feeOf_25 (tgt := 30) (by decide) ?_
        exact v_iret C dX10_feeOf_30 h
    · refine v_bipush C dX10_feeOf_13 kb_10 ?_
      refine v_goto C dX10_feeOf_15 (tgt := 30) (by decide) ?_
      exact v_iret C dX10_feeOf_30 h
  · refine v_iconst C dX10_feeOf_4 ki_5 ?_
    refine v_goto C dX10_feeOf_5 (tgt := 30) (by decide) ?_
    exact v_iret C dX10_feeOf_30 h

def dc_X10_aside  (σ : Sto) : Option Sto :=
  (lt (up (up σ 160 0 0 (0 : Int32)) 169 0 0 (0 : Int32)) fun σ1 => wh1 (fun (rec2 : Int32 → Sto → Option Sto) (x4 : Int32) (σ3 : Sto) => (if (564 : Int32) ≤ x4 then some σ3 else (if inb x4 564 then (if inb x4 564 then rec2 (x4 + 1) (up σ3 320 0 x4.toNatClampNeg (σ3.1 304 0 x4.toNatClampNeg)) else none) else none))) FU (0 : Int32) σ1)
set_option maxRecDepth 20000 in
set_option maxHeartbeats 4000000 in
theorem s_X10_aside {G : Gm} {d : Nat}  {σ τ : Sto} (h : dc_X10_aside  σ = some τ) : Cl G d m_X10_aside [.ref (ad G 10 0 0)] σ none τ := by
  unfold dc_X10_aside at h
  refine Cl.mk (cc := cX10_aside) (own := RX10) (nL := 2) (ret := none) rfl rfl rfl rfl (by decide +kernel) (catA rfl) (Nat.le_of_ble_eq_true rfl) (fun X C => ?_)
  show V X G 0 0 (QE X G none τ) σ 0 [some (.ref (ad G 10 0 0)), none] []
  refine v_aload_n C dX10_aside_0 rfl rfl ?_
  refine v_iconst C dX10_aside_1 ki_0 ?_
  refine pf_X10_1 C dX10_aside_2 ?_
  refine v_aload_n C dX10_aside_5 rfl rfl ?_
  refine v_iconst C dX10_aside_6 ki_0 ?_
  refine pf_X10_46 C (Or.inl rfl) dX10_aside_7 ?_
  refine v_lt h (fun σ1 h => ?_)
  refine v_iconst C dX10_aside_10 ki_0 ?_
  refine v_istore_n C dX10_aside_11 rfl (Nat.le_of_ble_eq_true rfl) (lc1 := [some (.ref (ad G 10 0 0)), some (.int (0 : Int32))]) rfl ?_
  refine v_loop1 (fun x4 σ3 => V X G 0 0 (QE X G none τ) σ3 12 [some (.ref (ad G 10 0 0)), some (.int x4)] []) (fun rec2 hrec2 x4 σ3 h => ?_) h
  refine v_iload_n C dX10_aside_12 rfl rfl ?_
  refine v_sipush C dX10_aside_13 ks_564 ?_
  refine v_icmp_ge C dX10_aside_16 (tgt := 37) (by decide) h (fun h => ?_) (fun h => ?_)
  · exact v_vret C dX10_aside_37 h
  · refine v_aload_n C dX10_aside_19 rfl rfl ?_
    refine gf_X10_17 C dX10_aside_20 ?_
    refine v_iload_n C dX10_aside_23 rfl rfl ?_
    refine v_aload_n C dX10_aside_24 rfl rfl ?_
    refine gf_X10_13 C dX10_aside_25 ?_
    refine v_iload_n C dX10_aside_28 rfl rfl ?_
    refine ld_19 C dX10_aside_29 h (fun h => ?_)
    refine as_20 C dX10_aside_30 h (fun h => ?_)
    refine v_iinc C dX10_aside_31 rfl (kc_1 _) (lc1 := [some (.ref (ad G 10 0 0)), some (.int (x4 + 1))]) rfl ?_
    refine v_goto C dX10_aside_34 (tgt := 12) (by decide) ?_
    refine v_mask [true, true] (lc' := [some (.ref (ad G 10 0 0)), some (.int (x4 + 1))]) rfl ?_
    exact hrec2 _ _ h

def dc_X10_putBack  (σ : Sto) : Option Sto :=
  wh1 (fun (rec1 : Int32 → Sto → Option Sto) (x3 : Int32) (σ2 : Sto) => (if (564 : Int32) ≤ x3 then some σ2 else (if inb x3 564 then (if inb x3 564 then rec1 (x3 + 1) (up σ2 304 0 x3.toNatClampNeg (σ2.1 320 0 x3.toNatClampNeg)) else none) else none))) FU (0 : Int32) σ
set_option maxRecDepth 20000 in
set_option maxHeartbeats 4000000 in
theorem s_X10_putBack {G : Gm} {d : Nat}  {σ τ : Sto} (h : dc_X10_putBack  σ = some τ) : Cl G d m_X10_putBack [.ref (ad G 10 0 0)] σ none τ := by
  unfold dc_X10_putBack at h
  refine Cl.mk (cc := cX10_putBack) (own := RX10) (nL := 2) (ret := none) rfl rfl rfl rfl (by decide +kernel) (catA rfl) (Nat.le_of_ble_eq_true rfl) (fun X C => ?_)
  show V X G 0 0 (QE X G none τ) σ 0 [some (.ref (ad G 10 0 0)), none] []
  refine v_iconst C dX10_putBack_0 ki_0 ?_
  refine v_istore_n C dX10_putBack_1 rfl (Nat.le_of_ble_eq_true rfl) (lc1 := [some (.ref (ad G 10 0 0)), some (.int (0 : Int32))]) rfl ?_
  refine v_loop1 (fun x3 σ2 => V X G 0 0 (QE X G none τ) σ2 2 [some (.ref (ad G 10 0 0)), some (.int x3)] []) (fun rec1 hrec1 x3 σ2 h => ?_) h
  refine v_iload_n C dX10_putBack_2 rfl rfl ?_
  refine v_sipush C dX10_putBack_3 ks_564 ?_
  refine v_icmp_ge C dX10_putBack_6 (tgt := 27) (by decide) h (fun h => ?_) (fun h => ?_)
  · exact v_vret C dX10_putBack_27 h
  · refine v_aload_n C dX10_putBack_9 rfl rfl ?_
    refine gf_X10_13 C dX10_putBack_10 ?_
    refine v_iload_n C dX10_putBack_13 rfl rfl ?_
    refine v_aload_n C dX10_putBack_14 rfl rfl ?_
    refine gf_X10_17 C dX10_putBack_15 ?_
    refine v_iload_n C dX10_putBack_18 rfl rfl ?_
    refine ld_20 C dX10_putBack_19 h (fun h => ?_)
    refine as_19 C dX10_putBack_20 h (fun h => ?_)
    refine v_iinc C dX10_putBack_21 rfl (kc_1 _) (lc1 := [some (.ref (ad G 10 0 0)), some (.int (x3 + 1))]) rfl ?_
    refine v_goto C dX10_putBack_24 (tgt := 2) (by decide) ?_
    refine v_mask [true, true] (lc' := [some (.ref (ad G 10 0 0)), some (.int (x3 + 1))]) rfl ?_
    exact hrec1 _ _ h

def dc_X10_acted (a1 : Int32) (σ : Sto) : Option (Int32 × Sto) :=
  (if (σ.1 169 0 0) = 0 then jn (fun (σ1 : Sto) => wh1 (fun (rec3 : Int32 → Sto → Option (Int32 × Sto)) (x5 : Int32) (σ4 : Sto) => (if (564 : Int32) ≤ x5 then some (a1, up σ4 166 0 0 ((σ4.1 166 0 0) + (1 : Int32))) else (if inb x5 564 then (if inb (((564 : Int32) * (σ4.1 166 0 0)) + x5) 2256 then rec3 (x5 + 1) (up σ4 352 0 (((564 : Int32) * (σ4.1 166 0 0)) + x5).toNatClampNeg (σ4.1 320 0 x5.toNatClampNeg)) else none) else none))) FU (0 : Int32) σ1) (fun k2 => (if (σ.1 166 0 0) = (4 : Int32) then wh1 (fun (rec6 : Int32 → Sto → Option (Int32 × Sto)) (x8 : Int32) (σ7 : Sto) => (if (1692 : Int32) ≤ x8 then k2 (up σ7 166 0 0 ((σ7.1 166 0 0) - (1 : Int32))) else (if inb (x8 + (564 : Int32)) 2256 then (if inb x8 2256 then rec6 (x8 + 1) (up σ7 352 0 x8.toNatClampNeg (σ7.1 352 0 (x8 + (564 : Int32)).toNatClampNeg)) else none) else none))) FU (0 : Int32) σ else k2 σ)) else (bv (dc_X10_putBack  σ) fun σ10 => some ((-3 : Int32), σ10)))
set_option maxRecDepth 20000 in
set_option maxHeartbeats 4000000 in
theorem s_X10_acted {G : Gm} {d : Nat} (a1 : Int32) {σ τ : Sto} {r : Int32} (h : dc_X10_acted a1 σ = some (r, τ)) : Cl G (d + 1) m_X10_acted [.ref (ad G 10 0 0), .int a1] σ (some (.int r)) τ := by
  unfold dc_X10_acted at h
  refine Cl.mk (cc := cX10_acted) (own := RX10) (nL := 3) (ret := (some .int)) rfl rfl rfl rfl (by decide +kernel) (catA rfl) (Nat.le_of_ble_eq_true rfl) (fun X C => ?_)
  show V X G 0 0 (QE X G (some (.int r)) τ) σ 0 [some (.ref (ad G 10 0 0)), some (.int a1), none] []
  refine v_aload_n C dX10_acted_0 rfl rfl ?_
  refine gf_X10_46 C dX10_acted_1 ?_
  refine v_if_eq C dX10_acted_4 (tgt := 14) (by decide) h (fun h => ?_) (fun h => ?_)
  · refine v_aload_n C dX10_acted_14 rfl rfl ?_
    refine gf_X10_53 C dX10_acted_15 ?_
    refine v_iconst C dX10_acted_18 ki_4 ?_
    refine v_join (fun k => ∀ (σ1 : Sto), k σ1 = some (r, τ) → V X G 0 0 (QE X G (some (.int r)) τ) σ1 63 [some (.ref (ad G 10 0 0)), some (.int a1), none] []) h (fun σ1 h => ?_) (fun k2 hk2 h => ?_)
    · refine v_iconst C dX10_acted_63 ki_0 ?_
      refine v_istore_n C dX10_acted_64 rfl (Nat.le_of_ble_eq_true rfl) (lc1 := [some (.ref (ad G 10 0 0)), some (.int a1), some (.int (0 : Int32))]) rfl ?_
      refine v_loop1 (fun x5 σ4 => V X G 0 0 (QE X G (some (.int r)) τ) σ4 65 [some (.ref (ad G 10 0 0)), some (.int a1), some (.int x5)] []) (fun rec3 hrec3 x5 σ4 h => ?_) h
      refine v_iload_n C dX10_acted_65 rfl rfl ?_
      refine v_sipush C dX10_acted_66 ks_564 ?_
      refine v_icmp_ge C dX10_acted_69 (tgt := 99) (by decide) h (fun h => ?_) (fun h => ?_)
      · refine v_aload_n C dX10_acted_99 rfl rfl ?_
        refine v_dup C dX10_acted_100 rfl ?_
        refine gf_X10_53 C dX10_acted_101 ?_
        refine v_iconst C dX10_acted_104 ki_1 ?_
        refine v_iadd C dX10_acted_105 ?_
        refine pf_X10_53 C dX10_acted_106 ?_
        refine v_iload_n C dX10_acted_109 rfl rfl ?_
        exact v_iret C dX10_acted_110 h
      · refine v_aload_n C dX10_acted_72 rfl rfl ?_
        refine gf_X10_23 C dX10_acted_73 ?_
        refine v_sipush C dX10_acted_76 ks_564 ?_
        refine v_aload_n C dX10_acted_79 rfl rfl ?_
        refine gf_X10_53 C dX10_acted_80 ?_
        refine v_imul C dX10_acted_83 ?_
        refine v_iload_n C dX10_acted_84 rfl rfl ?_
        refine v_iadd C dX10_acted_85 ?_
        refine v_aload_n C dX10_acted_86 rfl rfl ?_
        refine gf_X10_17 C dX10_acted_87 ?_
        refine v_iload_n C dX10_acted_90 rfl rfl ?_
        refine ld_20 C dX10_acted_91 h (fun h => ?_)
        refine as_22 C dX10_acted_92 h (fun h => ?_)
        refine v_iinc C dX10_acted_93 rfl (kc_1 _) (lc1 := [some (.ref (ad G 10 0 0)), some (.int a1), some (.int (x5 + 1))]) rfl ?_
        refine v_goto C dX10_acted_96 (tgt := 65) (by decide) ?_
        refine v_mask [true, true, true] (lc' := [some (.ref (ad G 10 0 0)), some (.int a1), some (.int (x5 + 1))]) rfl ?_
        exact hrec3 _ _ h
    · refine v_icmp_ne C dX10_acted_19 (tgt := 63) (by decide) h (fun h => ?_) (fun h => ?_)
      · refine v_mask [true, true, false] (lc' := [some (.ref (ad G 10 0 0)), some (.int a1), none]) rfl ?_
        exact hk2 _ h
      · refine v_iconst C dX10_acted_22 ki_0 ?_
        refine v_istore_n C dX10_acted_23 rfl (Nat.le_of_ble_eq_true rfl) (lc1 := [some (.ref (ad G 10 0 0)), some (.int a1), some (.int (0 : Int32))]) rfl ?_
        refine v_loop1 (fun x8 σ7 => V X G 0 0 (QE X G (some (.int r)) τ) σ7 24 [some (.ref (ad G 10 0 0)), some (.int a1), some (.int x8)] []) (fun rec6 hrec6 x8 σ7 h => ?_) h
        refine v_iload_n C dX10_acted_24 rfl rfl ?_
        refine v_sipush C dX10_acted_25 ks_1692 ?_
        refine v_icmp_ge C dX10_acted_28 (tgt := 53) (by decide) h (fun h => ?_) (fun h => ?_)
        · refine v_aload_n C dX10_acted_53 rfl rfl ?_
          refine v_dup C dX10_acted_54 rfl ?_
          refine gf_X10_53 C dX10_acted_55 ?_
          refine v_iconst C dX10_acted_58 ki_1 ?_
          refine v_isub C dX10_acted_59 ?_
          refine pf_X10_53 C dX10_acted_60 ?_
          refine v_mask [true, true, false] (lc' := [some (.ref (ad G 10 0 0)), some (.int a1), none]) rfl ?_
          exact hk2 _ h
        · refine v_aload_n C dX10_acted_31 rfl rfl ?_
          refine gf_X10_23 C dX10_acted_32 ?_
          refine v_iload_n C dX10_acted_35 rfl rfl ?_
          refine v_aload_n C dX10_acted_36 rfl rfl ?_
          refine gf_X10_23 C dX10_acted_37 ?_
          refine v_iload_n C dX10_acted_40 rfl rfl ?_
          refine v_sipush C dX10_acted_41 ks_564 ?_
          refine v_iadd C dX10_acted_44 ?_
          refine ld_22 C dX10_acted_45 h (fun h => ?_)
          refine as_22 C dX10_acted_46 h (fun h => ?_)
          refine v_iinc C dX10_acted_47 rfl (kc_1 _) (lc1 := [some (.ref (ad G 10 0 0)), some (.int a1), some (.int (x8 + 1))]) rfl ?_
          refine v_goto C dX10_acted_50 (tgt := 24) (by decide) ?_
          refine v_mask [true, true, true] (lc' := [some (.ref (ad G 10 0 0)), some (.int a1), some (.int (x8 + 1))]) rfl ?_
          exact hrec6 _ _ h
  · refine v_aload_n C dX10_acted_7 rfl rfl ?_
    refine cVv C 10 0 0 (av := []) si_X10_putBack lk_X10_50 (ok10) rfl rfl rfl rfl (st := []) rfl (Nat.le_of_ble_eq_true rfl) dX10_acted_8 h (fun _ hc => s_X10_putBack (d := d)   hc) (fun σ10 h => ?_)
    refine v_bipush C dX10_acted_11 kb_m3 ?_
    exact v_iret C dX10_acted_13 h

def dc_X10_payOut (a1 : Int32) (a2 : Int32) (σ : Sto) : Option Sto :=
  jn (fun (v1 : Int32) => (if v1 = 0 ∨ v1 = 1 then (if inb (((10 : Int32) + ((3 : Int32) * a1)) + (0 : Int32)) 564 then (if ((up σ 169 0 0 v1).1 169 0 0) = 0 then (if inb (((10 : Int32) + ((3 : Int32) * a1)) + (0 : Int32)) 564 then (lt (up (up σ 169 0 0 v1) 304 0 (((10 : Int32) + ((3 : Int32) * a1)) + (0 : Int32)).toNatClampNeg (((up σ 169 0 0 v1).1 304 0 (((10 : Int32) + ((3 : Int32) * a1)) + (0 : Int32)).toNatClampNeg) + a2)) fun σ3 => some σ3) else none) else (if inb (((10 : Int32) + ((3 : Int32) * a1)) + (0 : Int32)) 564 then (lt (up (up σ 169 0 0 v1) 304 0 (((10 : Int32) + ((3 : Int32) * a1)) + (0 : Int32)).toNatClampNeg (((up σ 169 0 0 v1).1 304 0 (((10 : Int32) + ((3 : Int32) * a1)) + (0 : Int32)).toNatClampNeg) + (0 : Int32))) fun σ4 => some σ4) else none)) else none) else none)) (fun k2 => (if (σ.1 169 0 0) = 0 then (if inb (((10 : Int32) + ((3 : Int32) * a1)) + (0 : Int32)) 564 then (if (lg_cmp (((σ.1 304 0 (((10 : Int32) + ((3 : Int32) * a1)) + (0 : Int32)).toNatClampNeg).toInt64) + a2.toInt64) (2147483647 : Int64)) ≤ 0 then k2 (0 : Int32) else k2 (1 : Int32)) else none) else k2 (1 : Int32)))
set_option maxRecDepth 20000 in
set_option maxHeartbeats 4000000 in
theorem s_X10_payOut {G : Gm} {d : Nat} (a1 : Int32) (a2 : Int32) {σ τ : Sto} (h : dc_X10_payOut a1 a2 σ = some τ) : Cl G d m_X10_payOut [.ref (ad G 10 0 0), .int a1, .int a2] σ none τ := by
  unfold dc_X10_payOut at h
  refine Cl.mk (cc := cX10_payOut) (own := RX10) (nL := 4) (ret := none) rfl rfl rfl rfl (by decide +kernel) (catA rfl) (Nat.le_of_ble_eq_true rfl) (fun X C => ?_)
  show V X G 0 0 (QE X G none τ) σ 0 [some (.ref (ad G 10 0 0)), some (.int a1), some (.int a2), none] []
  refine v_bipush C dX10_payOut_0 kb_10 ?_
  refine v_iconst C dX10_payOut_2 ki_3 ?_
  refine v_iload_n C dX10_payOut_3 rfl rfl ?_
  refine v_imul C dX10_payOut_4 ?_
  refine v_iadd C dX10_payOut_5 ?_
  refine v_iconst C dX10_payOut_6 ki_0 ?_
  refine v_iadd C dX10_payOut_7 ?_
  refine v_istore_n C dX10_payOut_8 rfl (Nat.le_of_ble_eq_true rfl) (lc1 := [some (.ref (ad G 10 0 0)), some (.int a1), some (.int a2), some (.int (((10 : Int32) + ((3 : Int32) * a1)) + (0 : Int32)))]) rfl ?_
  refine v_aload_n C dX10_payOut_9 rfl rfl ?_
  refine v_aload_n C dX10_payOut_10 rfl rfl ?_
  refine gf_X10_46 C dX10_payOut_11 ?_
  refine v_join (fun k => ∀ (v1 : Int32), k v1 = some τ → V X G 0 0 (QE X G none τ) σ 39 [some (.ref (ad G 10 0 0)), some (.int a1), some (.int a2), some (.int (((10 : Int32) + ((3 : Int32) * a1)) + (0 : Int32)))] [.int v1, .ref (ad G 10 0 0)]) h (fun v1 h => ?_) (fun k2 hk2 h => ?_)
  · refine pf_X10_46 C (if_some h).1 dX10_payOut_39 ?_
    have h := (if_some h).2
    refine v_aload_n C dX10_payOut_42 rfl rfl ?_
    refine gf_X10_13 C dX10_payOut_43 ?_
    refine v_iload_n C dX10_payOut_46 rfl rfl ?_
    refine v_dup2 C dX10_payOut_47 rfl rfl ?_
    refine ld_19 C dX10_payOut_48 h (fun h => ?_)
    refine v_aload_n C dX10_payOut_49 rfl rfl ?_
    refine gf_X10_46 C dX10_payOut_50 ?_
    refine v_if_eq C dX10_payOut_53 (tgt := 60) (by decide) h (fun h => ?_) (fun h => ?_)
    · refine v_iload_n C dX10_payOut_60 rfl rfl ?_
      refine v_iadd C dX10_payOut_61 ?_
      refine as_19 C dX10_payOut_62 h (fun h => ?_)
      refine v_lt h (fun σ3 h => ?_)
      exact v_vret C dX10_payOut_63 h
    · refine v_iconst C dX10_payOut_56 ki_0 ?_
      refine v_goto C dX10_payOut_57 (tgt := 61) (by decide) ?_
      refine v_iadd C dX10_payOut_61 ?_
      refine as_19 C dX10_payOut_62 h (fun h => ?_)
      refine v_lt h (fun σ4 h => ?_)
      exact v_vret C dX10_payOut_63 h
  · refine v_if_ne C dX10_payOut_14 (tgt := 34) (by decide) h (fun h => ?_) (fun h => ?_)
    · refine v_iconst C dX10_payOut_34 ki_1 ?_
      refine v_goto C dX10_payOut_35 (tgt := 39) (by decide) ?_
      refine v_mask [true, true, true, true] (lc' := [some (.ref (ad G 10 0 0)), some (.int a1), some (.int a2), some (.int (((10 : Int32) + ((3 : Int32) * a1)) + (0 : Int32)))]) rfl ?_
      exact hk2 _ h
    · refine v_aload_n C dX10_payOut_17 rfl rfl ?_
      refine gf_X10_13 C dX10_payOut_18 ?_
      refine v_iload_n C dX10_payOut_21 rfl rfl ?_
      refine ld_19 C dX10_payOut_22 h (fun h => ?_)
      refine v_i2l C dX10_payOut_23 ?_
      refine v_iload_n C dX10_payOut_24 rfl rfl ?_
      refine v_i2l C dX10_payOut_25 ?_
      refine v_ladd C dX10_payOut_26 ?_
      refine v_ldc2 C dX10_payOut_27 lk_X10_56 ?_
      refine v_lcmp C dX10_payOut_30 ?_
      refine v_if_le C dX10_payOut_31 (tgt := 38) (by decide) h (fun h => ?_) (fun h => ?_)
      · refine v_iconst C dX10_payOut_38 ki_0 ?_
        refine v_mask [true, true, true, true] (lc' := [some (.ref (ad G 10 0 0)), some (.int a1), some (.int a2), some (.int (((10 : Int32) + ((3 : Int32) * a1)) + (0 : Int32)))]) rfl ?_
        exact hk2 _ h
      · refine v_iconst C dX10_payOut_34 ki_1 ?_
        refine v_goto C dX10_payOut_35 (tgt := 39) (by decide) ?_
        refine v_mask [true, true, true, true] (lc' := [some (.ref (ad G 10 0 0)), some (.int a1), some (.int a2), some (.int (((10 : Int32) + ((3 : Int32) * a1)) + (0 : Int32)))]) rfl ?_
        exact hk2 _ h

def dc_X10_addInvestor (a1 : Int32) (σ : Sto) : Option (Int32 × Sto) :=
  (bv (dc_X10_aside  σ) fun σ2 => (if 0 ≤ a1 then (if inb (1 : Int32) 564 then (if (σ2.1 304 0 (1 : Int32).toNatClampNeg) = (8 : Int32) then some ((-3 : Int32), σ2) else (if inb (1 : Int32) 564 then (if inb ((10 : Int32) + ((3 : Int32) * (σ2.1 304 0 (1 : Int32).toNatClampNeg))) 564 then (if inb (1 : Int32) 564 then (if inb (1 : Int32) 564 then (lt (up (up σ2 304 0 ((10 : Int32) + ((3 : Int32) * (σ2.1 304 0 (1 : Int32).toNatClampNeg))).toNatClampNeg a1) 304 0 (1 : Int32).toNatClampNeg (((up σ2 304 0 ((10 : Int32) + ((3 : Int32) * (σ2.1 304 0 (1 : Int32).toNatClampNeg))).toNatClampNeg a1).1 304 0 (1 : Int32).toNatClampNeg) + (1 : Int32))) fun σ3 => (if inb (1 : Int32) 564 then (bd (dc_X10_acted ((σ3.1 304 0 (1 : Int32).toNatClampNeg) - (1 : Int32)) σ3) fun r4 σ5 => some (r4, σ5)) else none)) else none) else none) else none) else none)) else none) else some ((-2 : Int32), σ2)))
set_option maxRecDepth 20000 in
set_option maxHeartbeats 4000000 in
theorem s_X10_addInvestor {G : Gm} {d : Nat} (a1 : Int32) {σ τ : Sto} {r : Int32} (h : dc_X10_addInvestor a1 σ = some (r, τ)) : Cl G (d + 2) m_X10_addInvestor [.ref (ad G 10 0 0), .int a1] σ (some (.int r)) τ := by
  unfold dc_X10_addInvestor at h
  refine Cl.mk (cc := cX10_addInvestor) (own := RX10) (nL := 2) (ret := (some .int)) rfl rfl rfl rfl (by decide +kernel) (catA rfl) (Nat.le_of_ble_eq_true rfl) (fun X C => ?_)
  show V X G 0 0 (QE X G (some (.int r)) τ) σ 0 [some (.ref (ad G 10 0 0)), some (.int a1)] []
  refine v_aload_n C dX10_addInvestor_0 rfl rfl ?_
  refine cVv C 10 0 0 (av := []) si_X10_aside lk_X10_58 (ok10) rfl rfl rfl rfl (st := []) rfl (Nat.le_of_ble_eq_true rfl) dX10_addInvestor_1 h (fun _ hc => s_X10_aside (d := (d + 1))   hc) (fun σ2 h => ?_)
  refine v_iload_n C dX10_addInvestor_4 rfl rfl ?_
  refine v_if_ge C dX10_addInvestor_5 (tgt := 11) (by decide) h (fun h => ?_) (fun h => ?_)
  · refine v_aload_n C dX10_addInvestor_11 rfl rfl ?_
    refine gf_X10_13 C dX10_addInvestor_12 ?_
    refine v_iconst C dX10_addInvestor_15 ki_1 ?_
    refine ld_19 C dX10_addInvestor_16 h (fun h => ?_)
    refine v_bipush C dX10_addInvestor_17 kb_8 ?_
    refine v_icmp_ne C dX10_addInvestor_19 (tgt := 25) (by decide) h (fun h => ?_) (fun h => ?_)
    · refine v_aload_n C dX10_addInvestor_25 rfl rfl ?_
      refine gf_X10_13 C dX10_addInvestor_26 ?_
      refine v_bipush C dX10_addInvestor_29 kb_10 ?_
      refine v_iconst C dX10_addInvestor_31 ki_3 ?_
      refine v_aload_n C dX10_addInvestor_32 rfl rfl ?_
      refine gf_X10_13 C dX10_addInvestor_33 ?_
      refine v_iconst C dX10_addInvestor_36 ki_1 ?_
      refine ld_19 C dX10_addInvestor_37 h (fun h => ?_)
      refine v_imul C dX10_addInvestor_38 ?_
      refine v_iadd C dX10_addInvestor_39 ?_
      refine v_iload_n C dX10_addInvestor_40 rfl rfl ?_
      refine as_19 C dX10_addInvestor_41 h (fun h => ?_)
      refine v_aload_n C dX10_addInvestor_42 rfl rfl ?_
      refine gf_X10_13 C dX10_addInvestor_43 ?_
      refine v_iconst C dX10_addInvestor_46 ki_1 ?_
      refine v_dup2 C dX10_addInvestor_47 rfl rfl ?_
      refine ld_19 C dX10_addInvestor_48 h (fun h => ?_)
      refine v_iconst C dX10_addInvestor_49 ki_1 ?_
      refine v_iadd C dX10_addInvestor_50 ?_
      refine as_19 C dX10_addInvestor_51 h (fun h => ?_)
      refine v_lt h (fun σ3 h => ?_)
      refine v_aload_n C dX10_addInvestor_52 rfl rfl ?_
      refine v_aload_n C dX10_addInvestor_53 rfl rfl ?_
      refine gf_X10_13 C dX10_addInvestor_54 ?_
      refine v_iconst C dX10_addInvestor_57 ki_1 ?_
      refine ld_19 C dX10_addInvestor_58 h (fun h => ?_)
      refine v_iconst C dX10_addInvestor_59 ki_1 ?_
      refine v_isub C dX10_addInvestor_60 ?_
      refine cVi C 10 0 0 (av := [.int ((σ3.1 304 0 (1 : Int32).toNatClampNeg) - (1 : Int32))]) si_X10_acted lk_X10_61 (ok10) rfl rfl rfl rfl (st := []) rfl (Nat.le_of_ble_eq_true rfl) dX10_addInvestor_61 h (fun _ _ hc => s_X10_acted (d := d) ((σ3.1 304 0 (1 : Int32).toNatClampNeg) - (1 : Int32))  hc) (fun r4 σ5 h => ?_)
      exact v_iret C dX10_addInvestor_64 h
    · refine v_bipush C dX10_addInvestor_22 kb_m3 ?_
      exact v_iret C dX10_addInvestor_24 h
  · refine v_bipush C dX10_addInvestor_8 kb_m2 ?_
    exact v_iret C dX10_addInvestor_10 h

def dc_X10_deposit (a1 : Int32) (a2 : Int32) (σ : Sto) : Option (Int32 × Sto) :=
  (bv (dc_X10_aside  σ) fun σ2 => (bd (dc_X10_isInvestor a1 σ2) fun r3 σ4 => (if r3 = 0 then some ((-1 : Int32), σ4) else (if (1 : Int32) ≤ a2 then (bv (dc_X10_payOut a1 a2 σ4) fun σ6 => (if inb ((10 : Int32) + ((3 : Int32) * a1)) 564 then (bd (dc_X10_acted (σ6.1 304 0 ((10 : Int32) + ((3 : Int32) * a1)).toNatClampNeg) σ6) fun r7 σ8 => some (r7, σ8)) else none)) else some ((-2 : Int32), σ4)))))
set_option maxRecDepth 20000 in
set_option maxHeartbeats 4000000 in
theorem s_X10_deposit {G : Gm} {d : Nat} (a1 : Int32) (a2 : Int32) {σ τ : Sto} {r : Int32} (h : dc_X10_deposit a1 a2 σ = some (r, τ)) : Cl G (d + 2) m_X10_deposit [.ref (ad G 10 0 0), .int a1, .int a2] σ (some (.int r)) τ := by
  unfold dc_X10_deposit at h
  refine Cl.mk (cc := cX10_deposit) (own := RX10) (nL := 3) (ret := (some .int)) rfl rfl rfl rfl (by decide +kernel) (catA rfl) (Nat.le_of_ble_eq_true rfl) (fun X C => ?_)
  show V X G 0 0 (QE X G (some (.int r)) τ) σ 0 [some (.ref (ad G 10 0 0)), some (.int a1), some (.int a2)] []
  refine v_aload_n C dX10_deposit_0 rfl rfl ?_
  refine cVv C 10 0 0 (av := []) si_X10_aside lk_X10_58 (ok10) rfl rfl rfl rfl (st := []) rfl (Nat.le_of_ble_eq_true rfl) dX10_deposit_1 h (fun _ hc => s_X10_aside (d := (d + 1))   hc) (fun σ2 h => ?_)
  refine v_aload_n C dX10_deposit_4 rfl rfl ?_
  refine v_iload_n C dX10_deposit_5 rfl rfl ?_
  refine cVi C 10 0 0 (av := [.int a1]) si_X10_isInvestor lk_X10_65 (ok10) rfl rfl rfl rfl (st := []) rfl (Nat.le_of_ble_eq_true rfl) dX10_deposit_6 h (fun _ _ hc => s_X10_isInvestor (d := d) a1  hc) (fun r3 σ4 h => ?_)
  refine v_if_ne C dX10_deposit_9 (tgt := 14) (by decide) h (fun h => ?_) (fun h => ?_)
  · refine v_iload_n C dX10_deposit_14 rfl rfl ?_
    refine v_iconst C dX10_deposit_15 ki_1 ?_
    refine v_icmp_ge C dX10_deposit_16 (tgt := 22) (by decide) h (fun h => ?_) (fun h => ?_)
    · refine v_aload_n C dX10_deposit_22 rfl rfl ?_
      refine v_iload_n C dX10_deposit_23 rfl rfl ?_
      refine v_iload_n C dX10_deposit_24 rfl rfl ?_
      refine cVv C 10 0 0 (av := [.int a1, .int a2]) si_X10_payOut lk_X10_69 (ok10) rfl rfl rfl rfl (st := []) rfl (Nat.le_of_ble_eq_true rfl) dX10_deposit_25 h (fun _ hc => s_X10_payOut (d := (d + 1)) a1 a2  hc) (fun σ6 h => ?_)
      refine v_aload_n C dX10_deposit_28 rfl rfl ?_
      refine v_aload_n C dX10_deposit_29 rfl rfl ?_
      refine gf_X10_13 C dX10_deposit_30 ?_
      refine v_bipush C dX10_deposit_33 kb_10 ?_
      refine v_iconst C dX10_deposit_35 ki_3 ?_
      refine v_iload_n C dX10_deposit_36 rfl rfl ?_
      refine v_imul C dX10_deposit_37 ?_
      refine v_iadd C dX10_deposit_38 ?_
      refine ld_19 C dX10_deposit_39 h (fun h => ?_)
      refine cVi C 10 0 0 (av := [.int (σ6.1 304 0 ((10 : Int32) + ((3 : Int32) * a1)).toNatClampNeg)]) si_X10_acted lk_X10_61 (ok10) rfl rfl rfl rfl (st := []) rfl (Nat.le_of_ble_eq_true rfl) dX10_deposit_40 h (fun _ _ hc => s_X10_acted (d := d) (σ6.1 304 0 ((10 : Int32) + ((3 : Int32) * a1)).toNatClampNeg)  hc) (fun r7 σ8 h => ?_)
      exact v_iret C dX10_deposit_43 h
    · refine v_bipush C dX10_deposit_19 kb_m2 ?_
      exact v_iret C dX10_deposit_21 h
  · refine v_iconst C dX10_deposit_12 ki_m1 ?_
    exact v_iret C dX10_deposit_13 h

def dc_X10_setPoolShare (a1 : Int32) (σ : Sto) : Option (Int32 × Sto) :=
  (bv (dc_X10_aside  σ) fun σ2 => (bd (dc_X10_in a1 (0 : Int32) (50 : Int32) σ2) fun r3 σ4 => (if r3 = 0 then some ((-2 : Int32), σ4) else (if inb (5 : Int32) 564 then (if (σ4.1 304 0 (5 : Int32).toNatClampNeg) = a1 then some ((-5 : Int32), σ4) else (if inb (5 : Int32) 564 then (bd (dc_X10_acted (σ4.1 304 0 (5 : Int32).toNatClampNeg) (up σ4 304 0 (5 : Int32).toNatClampNeg a1)) fun r5 σ6 => some (r5, σ6)) else none)) else none))))
set_option maxRecDepth 20000 in
set_option maxHeartbeats 4000000 in
theorem s_X10_setPoolShare {G : Gm} {d : Nat} (a1 : Int32) {σ τ : Sto} {r : Int32} (h : dc_X10_setPoolShare a1 σ = some (r, τ)) : Cl G (d + 2) m_X10_setPoolShare [.ref (ad G 10 0 0), .int a1] σ (some (.int r)) τ := by
  unfold dc_X10_setPoolShare at h
  refine Cl.mk (cc := cX10_setPoolShare) (own := RX10) (nL := 3) (ret := (some .int)) rfl rfl rfl rfl (by decide +kernel) (catA rfl) (Nat.le_of_ble_eq_true rfl) (fun X C => ?_)
  show V X G 0 0 (QE X G (some (.int r)) τ) σ 0 [some (.ref (ad G 10 0 0)), some (.int a1), none] []
  refine v_aload_n C dX10_setPoolShare_0 rfl rfl ?_
  refine cVv C 10 0 0 (av := []) si_X10_aside lk_X10_58 (ok10) rfl rfl rfl rfl (st := []) rfl (Nat.le_of_ble_eq_true rfl) dX10_setPoolShare_1 h (fun _ hc => s_X10_aside (d := (d + 1))   hc) (fun σ2 h => ?_)
  refine v_iload_n C dX10_setPoolShare_4 rfl rfl ?_
  refine v_iconst C dX10_setPoolShare_5 ki_0 ?_
  refine v_bipush C dX10_setPoolShare_6 kb_50 ?_
  refine cSi C (av := [.int a1, .int (0 : Int32), .int (50 : Int32)]) si_X10_in lk_X10_38 rfl rfl (st := []) rfl (Nat.le_of_ble_eq_true rfl) dX10_setPoolShare_8 h (fun _ _ hc => s_X10_in (d := (d + 1)) a1 (0 : Int32) (50 : Int32)  hc) (fun r3 σ4 h => ?_)
  refine v_if_ne C dX10_setPoolShare_11 (tgt := 17) (by decide) h (fun h => ?_) (fun h => ?_)
  · refine v_aload_n C dX10_setPoolShare_17 rfl rfl ?_
    refine gf_X10_13 C dX10_setPoolShare_18 ?_
    refine v_iconst C dX10_setPoolShare_21 ki_5 ?_
    refine ld_19 C dX10_setPoolShare_22 h (fun h => ?_)
    refine v_istore_n C dX10_setPoolShare_23 rfl (Nat.le_of_ble_eq_true rfl) (lc1 := [some (.ref (ad G 10 0 0)), some (.int a1), some (.int (σ4.1 304 0 (5 : Int32).toNatClampNeg))]) rfl ?_
    refine v_iload_n C dX10_setPoolShare_24 rfl rfl ?_
    refine v_iload_n C dX10_setPoolShare_25 rfl rfl ?_
    refine v_icmp_ne C dX10_setPoolShare_26 (tgt := 32) (by decide) h (fun h => ?_) (fun h => ?_)
    · refine v_aload_n C dX10_setPoolShare_32 rfl rfl ?_
      refine gf_X10_13 C dX10_setPoolShare_33 ?_
      refine v_iconst C dX10_setPoolShare_36 ki_5 ?_
      refine v_iload_n C dX10_setPoolShare_37 rfl rfl ?_
      refine as_19 C dX10_setPoolShare_38 h (fun h => ?_)
      refine v_aload_n C dX10_setPoolShare_39 rfl rfl ?_
      refine v_iload_n C dX10_setPoolShare_40 rfl rfl ?_
      refine cVi C 10 0 0 (av := [.int (σ4.1 304 0 (5 : Int32).toNatClampNeg)]) si_X10_acted lk_X10_61 (ok10) rfl rfl rfl rfl (st := []) rfl (Nat.le_of_ble_eq_true rfl) dX10_setPoolShare_41 h (fun _ _ hc => s_X10_acted (d := d) (σ4.1 304 0 (5 : Int32).toNatClampNeg)  hc) (fun r5 σ6 h => ?_)
      exact v_iret C dX10_setPoolShare_44 h
    · refine v_bipush C dX10_setPoolShare_29 kb_m5 ?_
      exact v_iret C dX10_setPoolShare_31 h
  · refine v_bipush C dX10_setPoolShare_14 kb_m2 ?_
    exact v_iret C dX10_setPoolShare_16 h

def dc_X10_openLoan (a1 : Int32) (a2 : Int32) (a3 : Int32) (σ : Sto) : Option (Int32 × Sto) :=
  (bv (dc_X10_aside  σ) fun σ2 => (bd (dc_X10_in a1 (100 : Int32) (99999 : Int32) σ2) fun r3 σ4 => (if r3 = 0 then some ((-2 : Int32), σ4) else (bd (dc_X10_in a2 (0 : Int32) (50 : Int32) σ4) fun r5 σ6 => (if r5 = 0 then some ((-2 : Int32), σ6) else (bd (dc_X10_in a3 (1 : Int32) (36 : Int32) σ6) fun r7 σ8 => (if r7 = 0 then some ((-2 : Int32), σ8) else (if inb (2 : Int32) 564 then (if (σ8.1 304 0 (2 : Int32).toNatClampNeg) = (10 : Int32) then some ((-3 : Int32), σ8) else (if inb (2 : Int32) 564 then wh1 (fun (rec9 : Int32 → Sto → Option (Int32 × Sto)) (x11 : Int32) (σ10 : Sto) => (if (11 : Int32) ≤ x11 then (bv (dc_X10_be (σ8.1 304 0 (2 : Int32).toNatClampNeg) (0 : Int32) a1 σ10) fun σ13 => (bv (dc_X10_be (σ8.1 304 0 (2 : Int32).toNatClampNeg) (1 : Int32) a2 σ13) fun σ15 => (bv (dc_X10_be (σ8.1 304 0 (2 : Int32).toNatClampNeg) (2 : Int32) a3 σ15) fun σ17 => (bv (dc_X10_be (σ8.1 304 0 (2 : Int32).toNatClampNeg) (5 : Int32) (-5 : Int32) σ17) fun σ19 => (bv (dc_X10_be (σ8.1 304 0 (2 : Int32).toNatClampNeg) (10 : Int32) (-5 : Int32) σ19) fun σ21 => (if inb (2 : Int32) 564 then (if inb (2 : Int32) 564 then (bd (dc_X10_acted (σ8.1 304 0 (2 : Int32).toNatClampNeg) (up σ21 304 0 (2 : Int32).toNatClampNeg ((σ21.1 304 0 (2 : Int32).toNatClampNeg) + (1 : Int32)))) fun r22 σ23 => some (r22, σ23)) else none) else none)))))) else (bv (dc_X10_be (σ8.1 304 0 (2 : Int32).toNatClampNeg) x11 (0 : Int32) σ10) fun σ25 => rec9 (x11 + 1) σ25))) FU (0 : Int32) σ8 else none)) else none))))))))
set_option maxRecDepth 20000 in
set_option maxHeartbeats 4000000 in
theorem s_X10_openLoan {G : Gm} {d : Nat} (a1 : Int32) (a2 : Int32) (a3 : Int32) {σ τ : Sto} {r : Int32} (h : dc_X10_openLoan a1 a2 a3 σ = some (r, τ)) : Cl G (d + 2) m_X10_openLoan [.ref (ad G 10 0 0), .int a1, .int a2, .int a3] σ (some (.int r)) τ := by
  unfold dc_X10_openLoan at h
  refine Cl.mk (cc := cX10_openLoan) (own := RX10) (nL := 6) (ret := (some .int)) rfl rfl rfl rfl (by decide +kernel) (catA rfl) (Nat.le_of_ble_eq_true rfl) (fun X C => ?_)
  show V X G 0 0 (QE X G (some (.int r)) τ) σ 0 [some (.ref (ad G 10 0 0)), some (.int a1), some (.int a2), some (.int a3), none, none] []
  refine v_aload_n C dX10_openLoan_0 rfl rfl ?_
  refine cVv C 10 0 0 (av := []) si_X10_aside lk_X10_58 (ok10) rfl rfl rfl rfl (st := []) rfl (Nat.le_of_ble_eq_true rfl) dX10_openLoan_1 h (fun _ hc => s_X10_aside (d := (d + 1))   hc) (fun σ2 h => ?_)
  refine v_iload_n C dX10_openLoan_4 rfl rfl ?_
  refine v_bipush C dX10_openLoan_5 kb_100 ?_
  refine v_ldc C dX10_openLoan_7 lk_X10_73 ?_
  refine cSi C (av := [.int a1, .int (100 : Int32), .int (99999 : Int32)]) si_X10_in lk_X10_38 rfl rfl (st := []) rfl (Nat.le_of_ble_eq_true rfl) dX10_openLoan_9 h (fun _ _ hc => s_X10_in (d := (d + 1)) a1 (100 : Int32) (99999 : Int32)  hc) (fun r3 σ4 h => ?_)
  refine v_if_eq C dX10_openLoan_12 (tgt := 35) (by decide) h (fun h => ?_) (fun h => ?_)
  · refine v_bipush C dX10_openLoan_35 kb_m2 ?_
    exact v_iret C dX10_openLoan_37 h
  · refine v_iload_n C dX10_openLoan_15 rfl rfl ?_
    refine v_iconst C dX10_openLoan_16 ki_0 ?_
    refine v_bipush C dX10_openLoan_17 kb_50 ?_
    refine cSi C (av := [.int a2, .int (0 : Int32), .int (50 : Int32)]) si_X10_in lk_X10_38 rfl rfl (st := []) rfl (Nat.le_of_ble_eq_true rfl) dX10_openLoan_19 h (fun _ _ hc => s_X10_in (d := (d + 1)) a2 (0 : Int32) (50 : Int32)  hc) (fun r5 σ6 h => ?_)
    refine v_if_eq C dX10_openLoan_22 (tgt := 35) (by decide) h (fun h => ?_) (fun h => ?_)
    · refine v_bipush C dX10_openLoan_35 kb_m2 ?_
      exact v_iret C dX10_openLoan_37 h
    · refine v_iload_n C dX10_openLoan_25 rfl rfl ?_
      refine v_iconst C dX10_openLoan_26 ki_1 ?_
      refine v_bipush C dX10_openLoan_27 kb_36 ?_
      refine cSi C (av := [.int a3, .int (1 : Int32), .int (36 : Int32)]) si_X10_in lk_X10_38 rfl rfl (st := []) rfl (Nat.le_of_ble_eq_true rfl) dX10_openLoan_29 h (fun _ _ hc => s_X10_in (d := (d + 1)) a3 (1 : Int32) (36 : Int32)  hc) (fun r7 σ8 h => ?_)
      refine v_if_ne C dX10_openLoan_32 (tgt := 38) (by decide) h (fun h => ?_) (fun h => ?_)
      · refine v_aload_n C dX10_openLoan_38 rfl rfl ?_
        refine gf_X10_13 C dX10_openLoan_39 ?_
        refine v_iconst C dX10_openLoan_42 ki_2 ?_
        refine ld_19 C dX10_openLoan_43 h (fun h => ?_)
        refine v_bipush C dX10_openLoan_44 kb_10 ?_
        refine v_icmp_ne C dX10_openLoan_46 (tgt := 52) (by decide) h (fun h => ?_) (fun h => ?_)
        · refine v_aload_n C dX10_openLoan_52 rfl rfl ?_
          refine gf_X10_13 C dX10_openLoan_53 ?_
          refine v_iconst C dX10_openLoan_56 ki_2 ?_
          refine ld_19 C dX10_openLoan_57 h (fun h => ?_)
          refine v_istore C dX10_openLoan_58 (Nat.le_of_ble_eq_true rfl) (lc1 := [some (.ref (ad G 10 0 0)), some (.int a1), some (.int a2), some (.int a3), some (.int (σ8.1 304 0 (2 : Int32).toNatClampNeg)), none]) rfl ?_
          refine v_iconst C dX10_openLoan_60 ki_0 ?_
          refine v_istore C dX10_openLoan_61 (Nat.le_of_ble_eq_true rfl) (lc1 := [some (.ref (ad G 10 0 0)), some (.int a1), some (.int a2), some (.int a3), some (.int (σ8.1 304 0 (2 : Int32).toNatClampNeg)), some (.int (0 : Int32))]) rfl ?_
          refine v_loop1 (fun x11 σ10 => V X G 0 0 (QE X G (some (.int r)) τ) σ10 63 [some (.ref (ad G 10 0 0)), some (.int a1), some (.int a2), some (.int a3), some (.int (σ8.1 304 0 (2 : Int32).toNatClampNeg)), some (.int x11)] []) (fun rec9 hrec9 x11 σ10 h => ?_) h
          refine v_iload C dX10_openLoan_63 rfl ?_
          refine v_bipush C dX10_openLoan_65 kb_11 ?_
          refine v_icmp_ge C dX10_openLoan_67 (tgt := 85) (by decide) h (fun h => ?_) (fun h => ?_)
          · refine v_aload_n C dX10_openLoan_85 rfl rfl ?_
            refine v_iload C dX10_openLoan_86 rfl ?_
            refine v_iconst C dX10_openLoan_88 ki_0 ?_
            refine v_iload_n C dX10_openLoan_89 rfl rfl ?_
            refine cVv C 10 0 0 (av := [.int (σ8.1 304 0 (2 : Int32).toNatClampNeg), .int (0 : Int32), .int a1]) si_X10_be lk_X10_74 (ok10) rfl rfl rfl rfl (st := []) rfl (Nat.le_of_ble_eq_true rfl) dX10_openLoan_90 h (fun _ hc => s_X10_be (d := (d + 1)) (σ8.1 304 0 (2 : Int32).toNatClampNeg) (0 : Int32) a1  hc) (fun σ13 h => ?_)
            refine v_aload_n C dX10_openLoan_93 rfl rfl ?_
            refine v_iload C dX10_openLoan_94 rfl ?_
            refine v_iconst C dX10_openLoan_96 ki_1 ?_
            refine v_iload_n C dX10_openLoan_97 rfl rfl ?_
            refine cVv C 10 0 0 (av := [.int (σ8.1 304 0 (2 : Int32).toNatClampNeg), .int (1 : Int32), .int a2]) si_X10_be lk_X10_74 (ok10) rfl rfl rfl rfl (st := []) rfl (Nat.le_of_ble_eq_true rfl) dX10_openLoan_98 h (fun _ hc => s_X10_be (d := (d + 1)) (σ8.1 304 0 (2 : Int32).toNatClampNeg) (1 : Int32) a2  hc) (fun σ15 h => ?_)
            refine v_aload_n C dX10_openLoan_101 rfl rfl ?_
            refine v_iload C dX10_openLoan_102 rfl ?_
            refine v_iconst C dX10_openLoan_104 ki_2 ?_
            refine v_iload_n C dX10_openLoan_105 rfl rfl ?_
            refine cVv C 10 0 0 (av := [.int (σ8.1 304 0 (2 : Int32).toNatClampNeg), .int (2 : Int32), .int a3]) si_X10_be lk_X10_74 (ok10) rfl rfl rfl rfl (st := []) rfl (Nat.le_of_ble_eq_true rfl) dX10_openLoan_106 h (fun _ hc => s_X10_be (d := (d + 1)) (σ8.1 304 0 (2 : Int32).toNatClampNeg) (2 : Int32) a3  hc) (fun σ17 h => ?_)
            refine v_aload_n C dX10_openLoan_109 rfl rfl ?_
            refine v_iload C dX10_openLoan_110 rfl ?_
            refine v_iconst C dX10_openLoan_112 ki_5 ?_
            refine v_bipush C dX10_openLoan_113 kb_m5 ?_
            refine cVv C 10 0 0 (av := [.int (σ8.1 304 0 (2 : Int32).toNatClampNeg), .int (5 : Int32), .int (-5 : Int32)]) si_X10_be lk_X10_74 (ok10) rfl rfl rfl rfl (st := []) rfl (Nat.le_of_ble_eq_true rfl) dX10_openLoan_115 h (fun _ hc => s_X10_be (d := (d + 1)) (σ8.1 304 0 (2 : Int32).toNatClampNeg) (5 : Int32) (-5 : Int32)  hc) (fun σ19 h => ?_)
            refine v_aload_n C dX10_openLoan_118 rfl rfl ?_
            refine v_iload C dX10_openLoan_119 rfl ?_
            refine v_bipush C dX10_openLoan_121 kb_10 ?_
            refine v_bipush C dX10_openLoan_123 kb_m5 ?_
            refine cVv C 10 0 0 (av := [.int (σ8.1 304 0 (2 : Int32).toNatClampNeg), .int (10 : Int32), .int (-5 : Int32)]) si_X10_be lk_X10_74 (ok10) rfl rfl rfl rfl (st := []) rfl (Nat.le_of_ble_eq_true rfl) dX10_openLoan_125 h (fun _ hc => s_X10_be (d := (d + 1)) (σ8.1 304 0 (2 : Int32).toNatClampNeg) (10 : Int32) (-5 : Int32)  hc) (fun σ21 h => ?_)
            refine v_aload_n C dX10_openLoan_128 rfl rfl ?_
            refine gf_X10_13 C dX10_openLoan_129 ?_
            refine v_iconst C dX10_openLoan_132 ki_2 ?_
            refine v_dup2 C dX10_openLoan_133 rfl rfl ?_
            refine ld_19 C dX10_openLoan_134 h (fun h => ?_)
            refine v_iconst C dX10_openLoan_135 ki_1 ?_
            refine v_iadd C dX10_openLoan_136 ?_
            refine as_19 C dX10_openLoan_137 h (fun h => ?_)
            refine v_aload_n C dX10_openLoan_138 rfl rfl ?_
            refine v_iload C dX10_openLoan_139 rfl ?_
            refine cVi C 10 0 0 (av := [.int (σ8.1 304 0 (2 : Int32).toNatClampNeg)]) si_X10_acted lk_X10_61 (ok10) rfl rfl rfl rfl (st := []) rfl (Nat.le_of_ble_eq_true rfl) dX10_openLoan_141 h (fun _ _ hc => s_X10_acted (d := d) (σ8.1 304 0 (2 : Int32).toNatClampNeg)  hc) (fun r22 σ23 h => ?_)
            exact v_iret C dX10_openLoan_144 h
          · refine v_aload_n C dX10_openLoan_70 rfl rfl ?_
            refine v_iload C dX10_openLoan_71 rfl ?_
            refine v_iload C dX10_openLoan_73 rfl ?_
            refine v_iconst C dX10_openLoan_75 ki_0 ?_
            refine cVv C 10 0 0 (av := [.int (σ8.1 304 0 (2 : Int32).toNatClampNeg), .int x11, .int (0 : Int32)]) si_X10_be lk_X10_74 (ok10) rfl rfl rfl rfl (st := []) rfl (Nat.le_of_ble_eq_true rfl) dX10_openLoan_76 h (fun _ hc => s_X10_be (d := (d + 1)) (σ8.1 304 0 (2 : Int32).toNatClampNeg) x11 (0 : Int32)  hc) (fun σ25 h => ?_)
            refine v_iinc C dX10_openLoan_79 rfl (kc_1 _) (lc1 := [some (.ref (ad G 10 0 0)), some (.int a1), some (.int a2), some (.int a3), some (.int (σ8.1 304 0 (2 : Int32).toNatClampNeg)), some (.int (x11 + 1))]) rfl ?_
            refine v_goto C dX10_openLoan_82 (tgt := 63) (by decide) ?_
            refine v_mask [true, true, true, true, true, true] (lc' := [some (.ref (ad G 10 0 0)), some (.int a1), some (.int a2), some (.int a3), some (.int (σ8.1 304 0 (2 : Int32).toNatClampNeg)), some (.int (x11 + 1))]) rfl ?_
            exact hrec9 _ _ h
        · refine v_bipush C dX10_openLoan_49 kb_m3 ?_
          exact v_iret C dX10_openLoan_51 h
      · refine v_bipush C dX10_openLoan_35 kb_m2 ?_
        exact v_iret C dX10_openLoan_37 h

def dc_X10_principals (a1 : Int32) (a2 : Int32) (σ : Sto) : Option (Int32 × Sto) :=
  wh2 (fun (rec1 : Int32 → Int32 → Sto → Option (Int32 × Sto)) (x3 : Int32) (x4 : Int32) (σ2 : Sto) => (if inb (3 : Int32) 564 then (if (σ2.1 304 0 (3 : Int32).toNatClampNeg) ≤ x4 then some (x3, σ2) else (bd (dc_X10_ofNote x4 (1 : Int32) σ2) fun r5 σ6 => (if r5 = a1 then (if a2 = (2 : Int32) then (bd (dc_X10_ofNote x4 (3 : Int32) σ6) fun r7 σ8 => rec1 (x3 + r7) (x4 + 1) σ8) else (bd (dc_X10_ofNote x4 (2 : Int32) σ6) fun r9 σ10 => (if r9 = a2 then (bd (dc_X10_ofNote x4 (3 : Int32) σ10) fun r11 σ12 => rec1 (x3 + r11) (x4 + 1) σ12) else rec1 (x3 + (0 : Int32)) (x4 + 1) σ10))) else rec1 (x3 + (0 : Int32)) (x4 + 1) σ6))) else none)) FU (0 : Int32) (0 : Int32) σ
set_option maxRecDepth 20000 in
set_option maxHeartbeats 4000000 in
theorem s_X10_principals {G : Gm} {d : Nat} (a1 : Int32) (a2 : Int32) {σ τ : Sto} {r : Int32} (h : dc_X10_principals a1 a2 σ = some (r, τ)) : Cl G (d + 1) m_X10_principals [.ref (ad G 10 0 0), .int a1, .int a2] σ (some (.int r)) τ := by
  unfold dc_X10_principals at h
  refine Cl.mk (cc := cX10_principals) (own := RX10) (nL := 5) (ret := (some .int)) rfl rfl rfl rfl (by decide +kernel) (catA rfl) (Nat.le_of_ble_eq_true rfl) (fun X C => ?_)
  show V X G 0 0 (QE X G (some (.int r)) τ) σ 0 [some (.ref (ad G 10 0 0)), some (.int a1), some (.int a2), none, none] []
  refine v_iconst C dX10_principals_0 ki_0 ?_
  refine v_istore_n C dX10_principals_1 rfl (Nat.le_of_ble_eq_true rfl) (lc1 := [some (.ref (ad G 10 0 0)), some (.int a1), some (.int a2), some (.int (0 : Int32)), none]) rfl ?_
  refine v_iconst C dX10_principals_2 ki_0 ?_
  refine v_istore C dX10_principals_3 (Nat.le_of_ble_eq_true rfl) (lc1 := [some (.ref (ad G 10 0 0)), some (.int a1), some (.int a2), some (.int (0 : Int32)), some (.int (0 : Int32))]) rfl ?_
  refine v_loop2 (fun x3 x4 σ2 => V X G 0 0 (QE X G (some (.int r)) τ) σ2 5 [some (.ref (ad G 10 0 0)), some (.int a1), some (.int a2), some (.int x3), some (.int x4)] []) (fun rec1 hrec1 x3 x4 σ2 h => ?_) h
  refine v_iload C dX10_principals_5 rfl ?_
  refine v_aload_n C dX10_principals_7 rfl rfl ?_
  refine gf_X10_13 C dX10_principals_8 ?_
  refine v_iconst C dX10_principals_11 ki_3 ?_
  refine ld_19 C dX10_principals_12 h (fun h => ?_)
  refine v_icmp_ge C dX10_principals_13 (tgt := 63) (by decide) h (fun h => ?_) (fun h => ?_)
  · refine v_iload_n C dX10_principals_63 rfl rfl ?_
    exact v_iret C dX10_principals_64 h
  · refine v_iload_n C dX10_principals_16 rfl rfl ?_
    refine v_aload_n C dX10_principals_17 rfl rfl ?_
    refine v_iload C dX10_principals_18 rfl ?_
    refine v_iconst C dX10_principals_20 ki_1 ?_
    refine cVi C 10 0 0 (av := [.int x4, .int (1 : Int32)]) si_X10_ofNote lk_X10_78 (ok10) rfl rfl rfl rfl (st := [.int x3]) rfl (Nat.le_of_ble_eq_true rfl) dX10_principals_21 h (fun _ _ hc => s_X10_ofNote (d := d) x4 (1 : Int32)  hc) (fun r5 σ6 h => ?_)
    refine v_iload_n C dX10_principals_24 rfl rfl ?_
    refine v_icmp_ne C dX10_principals_25 (tgt := 54) (by decide) h (fun h => ?_) (fun h => ?_)
    · refine v_iconst C dX10_principals_54 ki_0 ?_
      refine v_iadd C dX10_principals_55 ?_
      refine v_istore_n C dX10_principals_56 rfl (Nat.le_of_ble_eq_true rfl) (lc1 := [some (.ref (ad G 10 0 0)), some (.int a1), some (.int a2), some (.int (x3 + (0 : Int32))), some (.int x4)]) rfl ?_
      refine v_iinc C dX10_principals_57 rfl (kc_1 _) (lc1 := [some (.ref (ad G 10 0 0)), some (.int a1), some (.int a2), some (.int (x3 + (0 : Int32))), some (.int (x4 + 1))]) rfl ?_
      refine v_goto C dX10_principals_60 (tgt := 5) (by decide) ?_
      refine v_mask [true, true, true, true, true] (lc' := [some (.ref (ad G 10 0 0)), some (.int a1), some (.int a2), some (.int (x3 + (0 : Int32))), some (.int (x4 + 1))]) rfl ?_
      exact hrec1 _ _ _ h
    · refine v_iload_n C dX10_principals_28 rfl rfl ?_
      refine v_iconst C dX10_principals_29 ki_2 ?_
      refine v_icmp_eq C dX10_principals_30 (tgt := 44) (by decide) h (fun h => ?_) (fun h => ?_)
      · refine v_aload_n C dX10_principals_44 rfl rfl ?_
        refine v_iload C dX10_principals_45 rfl ?_
        refine v_iconst C dX10_principals_47 ki_3 ?_
        refine cVi C 10 0 0 (av := [.int x4, .int (3 : Int32)]) si_X10_ofNote lk_X10_78 (ok10) rfl rfl rfl rfl (st := [.int x3]) rfl (Nat.le_of_ble_eq_true rfl) dX10_principals_48 h (fun _ _ hc => s_X10_ofNote (d := d) x4 (3 : Int32)  hc) (fun r7 σ8 h => ?_)
        refine v_goto C dX10_principals_51 (tgt := 55) (by decide) ?_
        refine v_iadd C dX10_principals_55 ?_
        refine v_istore_n C dX10_principals_56 rfl (Nat.le_of_ble_eq_true rfl) (lc1 := [some (.ref (ad G 10 0 0)), some (.int a1), some (.int a2), some (.int (x3 + r7)), some (.int x4)]) rfl ?_
        refine v_iinc C dX10_principals_57 rfl (kc_1 _) (lc1 := [some (.ref (ad G 10 0 0)), some (.int a1), some (.int a2), some (.int (x3 + r7)), some (.int (x4 + 1))]) rfl ?_
        refine v_goto C dX10_principals_60 (tgt := 5) (by decide) ?_
        refine v_mask [true, true, true, true, true] (lc' := [some (.ref (ad G 10 0 0)), some (.int a1), some (.int a2), some (.int (x3 + r7)), some (.int (x4 + 1))]) rfl ?_
        exact hrec1 _ _ _ h
      · refine v_aload_n C dX10_principals_33 rfl rfl ?_
        refine v_iload C dX10_principals_34 rfl ?_
        refine v_iconst C dX10_principals_36 ki_2 ?_
        refine cVi C 10 0 0 (av := [.int x4, .int (2 : Int32)]) si_X10_ofNote lk_X10_78 (ok10) rfl rfl rfl rfl (st := [.int x3]) rfl (Nat.le_of_ble_eq_true rfl) dX10_principals_37 h (fun _ _ hc => s_X10_ofNote (d := d) x4 (2 : Int32)  hc) (fun r9 σ10 h => ?_)
        refine v_iload_n C dX10_principals_40 rfl rfl ?_
        refine v_icmp_ne C dX10_principals_41 (tgt := 54) (by decide) h (fun h => ?_) (fun h => ?_)
        · refine v_iconst C dX10_principals_54 ki_0 ?_
          refine v_iadd C dX10_principals_55 ?_
          refine v_istore_n C dX10_principals_56 rfl (Nat.le_of_ble_eq_true rfl) (lc1 := [some (.ref (ad G 10 0 0)), some (.int a1), some (.int a2), some (.int (x3 + (0 : Int32))), some (.int x4)]) rfl ?_
          refine v_iinc C dX10_principals_57 rfl (kc_1 _) (lc1 := [some (.ref (ad G 10 0 0)), some (.int a1), some (.int a2), some (.int (x3 + (0 : Int32))), some (.int (x4 + 1))]) rfl ?_
          refine v_goto C dX10_principals_60 (tgt := 5) (by decide) ?_
          refine v_mask [true, true, true, true, true] (lc' := [some (.ref (ad G 10 0 0)), some (.int a1), some (.int a2), some (.int (x3 + (0 : Int32))), some (.int (x4 + 1))]) rfl ?_
          exact hrec1 _ _ _ h
        · refine v_aload_n C dX10_principals_44 rfl rfl ?_
          refine v_iload C dX10_principals_45 rfl ?_
          refine v_iconst C dX10_principals_47 ki_3 ?_
          refine cVi C 10 0 0 (av := [.int x4, .int (3 : Int32)]) si_X10_ofNote lk_X10_78 (ok10) rfl rfl rfl rfl (st := [.int x3]) rfl (Nat.le_of_ble_eq_true rfl) dX10_principals_48 h (fun _ _ hc => s_X10_ofNote (d := d) x4 (3 : Int32)  hc) (fun r11 σ12 h => ?_)
          refine v_goto C dX10_principals_51 (tgt := 55) (by decide) ?_
          refine v_iadd C dX10_principals_55 ?_
          refine v_istore_n C dX10_principals_56 rfl (Nat.le_of_ble_eq_true rfl) (lc1 := [some (.ref (ad G 10 0 0)), some (.int a1), some (.int a2), some (.int (x3 + r11)), some (.int x4)]) rfl ?_
          refine v_iinc C dX10_principals_57 rfl (kc_1 _) (lc1 := [some (.ref (ad G 10 0 0)), some (.int a1), some (.int a2), some (.int (x3 + r11)), some (.int (x4 + 1))]) rfl ?_
          refine v_goto C dX10_principals_60 (tgt := 5) (by decide) ?_
          refine v_mask [true, true, true, true, true] (lc' := [some (.ref (ad G 10 0 0)), some (.int a1), some (.int a2), some (.int (x3 + r11)), some (.int (x4 + 1))]) rfl ?_
          exact hrec1 _ _ _ h

def dc_X10_missing (a1 : Int32) (σ : Sto) : Option (Int32 × Sto) :=
  (bd (dc_X10_of a1 (3 : Int32) σ) fun r1 σ2 => (if r1 = 0 then (bd (dc_X10_of a1 (0 : Int32) σ2) fun r3 σ4 => (bd (dc_X10_principals a1 (2 : Int32) σ4) fun r5 σ6 => some (r3 - r5, σ6))) else some ((0 : Int32), σ2)))
set_option maxRecDepth 20000 in
set_option maxHeartbeats 4000000 in
theorem s_X10_missing {G : Gm} {d : Nat} (a1 : Int32) {σ τ : Sto} {r : Int32} (h : dc_X10_missing a1 σ = some (r, τ)) : Cl G (d + 2) m_X10_missing [.ref (ad G 10 0 0), .int a1] σ (some (.int r)) τ := by
  unfold dc_X10_missing at h
  refine Cl.mk (cc := cX10_missing) (own := RX10) (nL := 2) (ret := (some .int)) rfl rfl rfl rfl (by decide +kernel) (catA rfl) (Nat.le_of_ble_eq_true rfl) (fun X C => ?_)
  show V X G 0 0 (QE X G (some (.int r)) τ) σ 0 [some (.ref (ad G 10 0 0)), some (.int a1)] []
  refine v_aload_n C dX10_missing_0 rfl rfl ?_
  refine v_iload_n C dX10_missing_1 rfl rfl ?_
  refine v_iconst C dX10_missing_2 ki_3 ?_
  refine cVi C 10 0 0 (av := [.int a1, .int (3 : Int32)]) si_X10_of lk_X10_42 (ok10) rfl rfl rfl rfl (st := []) rfl (Nat.le_of_ble_eq_true rfl) dX10_missing_3 h (fun _ _ hc => s_X10_of (d := (d + 1)) a1 (3 : Int32)  hc) (fun r1 σ2 h => ?_)
  refine v_if_ne C dX10_missing_6 (tgt := 25) (by decide) h (fun h => ?_) (fun h => ?_)
  · refine v_iconst C dX10_missing_25 ki_0 ?_
    exact v_iret C dX10_missing_26 h
  · refine v_aload_n C dX10_missing_9 rfl rfl ?_
    refine v_iload_n C dX10_missing_10 rfl rfl ?_
    refine v_iconst C dX10_missing_11 ki_0 ?_
    refine cVi C 10 0 0 (av := [.int a1, .int (0 : Int32)]) si_X10_of lk_X10_42 (ok10) rfl rfl rfl rfl (st := []) rfl (Nat.le_of_ble_eq_true rfl) dX10_missing_12 h (fun _ _ hc => s_X10_of (d := (d + 1)) a1 (0 : Int32)  hc) (fun r3 σ4 h => ?_)
    refine v_aload_n C dX10_missing_15 rfl rfl ?_
    refine v_iload_n C dX10_missing_16 rfl rfl ?_
    refine v_iconst C dX10_missing_17 ki_2 ?_
    refine cVi C 10 0 0 (av := [.int a1, .int (2 : Int32)]) si_X10_principals lk_X10_81 (ok10) rfl rfl rfl rfl (st := [.int r3]) rfl (Nat.le_of_ble_eq_true rfl) dX10_missing_18 h (fun _ _ hc => s_X10_principals (d := d) a1 (2 : Int32)  hc) (fun r5 σ6 h => ?_)
    refine v_isub C dX10_missing_21 ?_
    refine v_goto C dX10_missing_22 (tgt := 26) (by decide) ?_
    exact v_iret C dX10_missing_26 h

def dc_X10_upwards (a0 : Int32) (a1 : Int32) (σ : Sto) : Option (Int32 × Sto) :=
  (if ¬ a1 = 0 then some (((a0 + a1) - (1 : Int32)) / a1, σ) else none)
set_option maxRecDepth 20000 in
set_option maxHeartbeats 4000000 in
theorem s_X10_upwards {G : Gm} {d : Nat} (a0 : Int32) (a1 : Int32) {σ τ : Sto} {r : Int32} (h : dc_X10_upwards a0 a1 σ = some (r, τ)) : Cl G d m_X10_upwards [.int a0, .int a1] σ (some (.int r)) τ := by
  unfold dc_X10_upwards at h
  refine Cl.mk (cc := cX10_upwards) (own := RX10) (nL := 2) (ret := (some .int)) rfl rfl rfl rfl (by decide +kernel) (catA rfl) (Nat.le_of_ble_eq_true rfl) (fun X C => ?_)
  show V X G 0 0 (QE X G (some (.int r)) τ) σ 0 [some (.int a0), some (.int a1)] []
  refine v_iload_n C dX10_upwards_0 rfl rfl ?_
  refine v_iload_n C dX10_upwards_1 rfl rfl ?_
  refine v_iadd C dX10_upwards_2 ?_
  refine v_iconst C dX10_upwards_3 ki_1 ?_
  refine v_isub C dX10_upwards_4 ?_
  refine v_iload_n C dX10_upwards_5 rfl rfl ?_
  refine v_idiv C dX10_upwards_6 (if_some h).1 ?_
  have h := (if_some h).2
  exact v_iret C dX10_upwards_7 h

def dc_X10_funds (a1 : Int32) (a2 : Int32) (a3 : Int32) (a4 : Int32) (σ : Sto) : Option (Int32 × Sto) :=
  (bd (dc_X10_isInvestor a1 σ) fun r1 σ2 => (if r1 = 0 then some ((-1 : Int32), σ2) else (bd (dc_X10_isLoan a2 σ2) fun r3 σ4 => (if r3 = 0 then some ((-1 : Int32), σ4) else (bd (dc_X10_in a4 (1 : Int32) (99999 : Int32) σ4) fun r5 σ6 => (if r5 = 0 then some ((-2 : Int32), σ6) else (bd (dc_X10_of a2 (3 : Int32) σ6) fun r7 σ8 => (if r7 = 0 then (bd (dc_X10_missing a2 σ8) fun r9 σ10 => (if r9 < a4 then some ((-4 : Int32), σ10) else (if inb ((10 : Int32) + ((3 : Int32) * a1)) 564 then (if a4 ≤ (σ10.1 304 0 ((10 : Int32) + ((3 : Int32) * a1)).toNatClampNeg) then (if inb (3 : Int32) 564 then (if (σ10.1 304 0 (3 : Int32).toNatClampNeg) = (60 : Int32) then some ((-3 : Int32), σ10) else (if inb (3 : Int32) 564 then wh1 (fun (rec11 : Int32 → Sto → Option (Int32 × Sto)) (x13 : Int32) (σ12 : Sto) => (if (7 : Int32) ≤ x13 then (if inb (((144 : Int32) + ((7 : Int32) * (σ10.1 304 0 (3 : Int32).toNatClampNeg))) + (0 : Int32)) 564 then (if inb (((144 : Int32) + ((7 : Int32) * (σ10.1 304 0 (3 : Int32).toNatClampNeg))) + (1 : Int32)) 564 then (lt (up (up σ12 304 0 (((144 : Int32) + ((7 : Int32) * (σ10.1 304 0 (3 : Int32).toNatClampNeg))) + (0 : Int32)).toNatClampNeg a1) 304 0 (((144 : Int32) + ((7 : Int32) * (σ10.1 304 0 (3 : Int32).toNatClampNeg))) + (1 : Int32)).toNatClampNeg a2) fun σ14 => (if inb (((144 : Int32) + ((7 : Int32) * (σ10.1 304 0 (3 : Int32).toNatClampNeg))) + (2 : Int32)) 564 then (if inb (((144 : Int32) + ((7 : Int32) * (σ10.1 304 0 (3 : Int32).toNatClampNeg))) + (3 : Int32)) 564 then (lt (up (up σ14 304 0 (((144 : Int32) + ((7 : Int32) * (σ10.1 304 0 (3 : Int32).toNatClampNeg))) + (2 : Int32)).toNatClampNeg a3) 304 0 (((144 : Int32) + ((7 : Int32) * (σ10.1 304 0 (3 : Int32).toNatClampNeg))) + (3 : Int32)).toNatClampNeg a4) fun σ15 => (if inb (((144 : Int32) + ((7 : Int32) * (σ10.1 304 0 (3 : Int32).toNatClampNeg))) + (4 : Int32)) 564 then (if inb (3 : Int32) 564 then (if inb (3 : Int32) 564 then (lt (up (up σ15 304 0 (((144 : Int32) + ((7 : Int32) * (σ10.1 304 0 (3 : Int32).toNatClampNeg))) + (4 : Int32)).toNatClampNeg a4) 304 0 (3 : Int32).toNatClampNeg (((up σ15 304 0 (((144 : Int32) + ((7 : Int32) * (σ10.1 304 0 (3 : Int32).toNatClampNeg))) + (4 : Int32)).toNatClampNeg a4).1 304 0 (3 : Int32).toNatClampNeg) + (1 : Int32))) fun σ16 => (if inb ((10 : Int32) + ((3 : Int32) * a1)) 564 then (if inb ((10 : Int32) + ((3 : Int32) * a1)) 564 then (bd (dc_X10_missing a2 (up σ16 304 0 ((10 : Int32) + ((3 : Int32) * a1)).toNatClampNeg ((σ16.1 304 0 ((10 : Int32) + ((3 : Int32) * a1)).toNatClampNeg) - a4))) fun r17 σ18 => (if r17 = 0 then (bv (dc_X10_be a2 (3 : Int32) (1 : Int32) σ18) fun σ20 => (bd (dc_X10_of a2 (0 : Int32) σ20) fun r21 σ22 => (bv (dc_X10_be a2 (4 : Int32) r21 σ22) fun σ24 => (bd (dc_X10_of a2 (0 : Int32) σ24) fun r25 σ26 => (bd (dc_X10_of a2 (2 : Int32) σ26) fun r27 σ28 => (bd (dc_X10_upwards r25 r27 σ28) fun r29 σ30 => (bv (dc_X10_be a2 (5 : Int32) r29 σ30) fun σ32 => some (r17, σ32)))))))) else some (r17, σ18))) else none) else none)) else none) else none) else none)) else none) else none)) else none) else none) else (if inb (((144 : Int32) + ((7 : Int32) * (σ10.1 304 0 (3 : Int32).toNatClampNeg))) + x13) 564 then rec11 (x13 + 1) (up σ12 304 0 (((144 : Int32) + ((7 : Int32) * (σ10.1 304 0 (3 : Int32).toNatClampNeg))) + x13).toNatClampNeg (0 : Int32)) else none))) FU (0 : Int32) σ10 else none)) else none) else some ((-4 : Int32), σ10)) else none))) else some ((-4 : Int32), σ8)))))))))
set_option maxRecDepth 20000 in
set_option maxHeartbeats 4000000 in
theorem s_X10_funds {G : Gm} {d : Nat} (a1 : Int32) (a2 : Int32) (a3 : Int32) (a4 : Int32) {σ τ : Sto} {r : Int32} (h : dc_X10_funds a1 a2 a3 a4 σ = some (r, τ)) : Cl G (d + 3) m_X10_funds [.ref (ad G 10 0 0), .int a1, .int a2, .int a3, .int a4] σ (some (.int r)) τ := by
  unfold dc_X10_funds at h
  refine Cl.mk (cc := cX10_funds) (own := RX10) (nL := 7) (ret := (some .int)) rfl rfl rfl rfl (by decide +kernel) (catA rfl) (Nat.le_of_ble_eq_true rfl) (fun X C => ?_)
  show V X G 0 0 (QE X G (some (.int r)) τ) σ 0 [some (.ref (ad G 10 0 0)), some (.int a1), some (.int a2), some (.int a3), some (.int a4), none, none] []
  refine v_aload_n C dX10_funds_0 rfl rfl ?_
  refine v_iload_n C dX10_funds_1 rfl rfl ?_
  refine cVi C 10 0 0 (av := [.int a1]) si_X10_isInvestor lk_X10_65 (ok10) rfl rfl rfl rfl (st := []) rfl (Nat.le_of_ble_eq_true rfl) dX10_funds_2 h (fun _ _ hc => s_X10_isInvestor (d := (d + 1)) a1  hc) (fun r1 σ2 h => ?_)
  refine v_if_eq C dX10_funds_5 (tgt := 16) (by decide) h (fun h => ?_) (fun h => ?_)
  · refine v_iconst C dX10_funds_16 ki_m1 ?_
    exact v_iret C dX10_funds_17 h
  · refine v_aload_n C dX10_funds_8 rfl rfl ?_
    refine v_iload_n C dX10_funds_9 rfl rfl ?_
    refine cVi C 10 0 0 (av := [.int a2]) si_X10_isLoan lk_X10_84 (ok10) rfl rfl rfl rfl (st := []) rfl (Nat.le_of_ble_eq_true rfl) dX10_funds_10 h (fun _ _ hc => s_X10_isLoan (d := (d + 1)) a2  hc) (fun r3 σ4 h => ?_)
    refine v_if_ne C dX10_funds_13 (tgt := 18) (by decide) h (fun h => ?_) (fun h => ?_)
    · refine v_iload C dX10_funds_18 rfl ?_
      refine v_iconst C dX10_funds_20 ki_1 ?_
      refine v_ldc C dX10_funds_21 lk_X10_73 ?_
      refine cSi C (av := [.int a4, .int (1 : Int32), .int (99999 : Int32)]) si_X10_in lk_X10_38 rfl rfl (st := []) rfl (Nat.le_of_ble_eq_true rfl) dX10_funds_23 h (fun _ _ hc => s_X10_in (d := (d + 2)) a4 (1 : Int32) (99999 : Int32)  hc) (fun r5 σ6 h => ?_)
      refine v_if_ne C dX10_funds_26 (tgt := 32) (by decide) h (fun h => ?_) (fun h => ?_)
      · refine v_aload_n C dX10_funds_32 rfl rfl ?_
        refine v_iload_n C dX10_funds_33 rfl rfl ?_
        refine v_iconst C dX10_funds_34 ki_3 ?_
        refine cVi C 10 0 0 (av := [.int a2, .int (3 : Int32)]) si_X10_of lk_X10_42 (ok10) rfl rfl rfl rfl (st := []) rfl (Nat.le_of_ble_eq_true rfl) dX10_funds_35 h (fun _ _ hc => s_X10_of (d := (d + 2)) a2 (3 : Int32)  hc) (fun r7 σ8 h => ?_)
        refine v_if_ne C dX10_funds_38 (tgt := 67) (by decide) h (fun h => ?_) (fun h => ?_)
        · refine v_bipush C dX10_funds_67 kb_m4 ?_
          exact v_iret C dX10_funds_69 h
        · refine v_aload_n C dX10_funds_41 rfl rfl ?_
          refine v_iload_n C dX10_funds_42 rfl rfl ?_
          refine cVi C 10 0 0 (av := [.int a2]) si_X10_missing lk_X10_87 (ok10) rfl rfl rfl rfl (st := []) rfl (Nat.le_of_ble_eq_true rfl) dX10_funds_43 h (fun _ _ hc => s_X10_missing (d := d) a2  hc) (fun r9 σ10 h => ?_)
          refine v_iload C dX10_funds_46 rfl ?_
          refine v_icmp_lt C dX10_funds_48 (tgt := 67) (by decide) h (fun h => ?_) (fun h => ?_)
          · refine v_bipush C dX10_funds_67 kb_m4 ?_
            exact v_iret C dX10_funds_69 h
          · refine v_aload_n C dX10_funds_51 rfl rfl ?_
            refine gf_X10_13 C dX10_funds_52 ?_
            refine v_bipush C dX10_funds_55 kb_10 ?_
            refine v_iconst C dX10_funds_57 ki_3 ?_
            refine v_iload_n C dX10_funds_58 rfl rfl ?_
            refine v_imul C dX10_funds_59 ?_
            refine v_iadd C dX10_funds_60 ?_
            refine ld_19 C dX10_funds_61 h (fun h => ?_)
            refine v_iload C dX10_funds_62 rfl ?_
            refine v_icmp_ge C dX10_funds_64 (tgt := 70) (by decide) h (fun h => ?_) (fun h => ?_)
            · refine v_aload_n C dX10_funds_70 rfl rfl ?_
              refine gf_X10_13 C dX10_funds_71 ?_
              refine v_iconst C dX10_funds_74 ki_3 ?_
              refine ld_19 C dX10_funds_75 h (fun h => ?_)
              refine v_bipush C dX10_funds_76 kb_60 ?_
              refine v_icmp_ne C dX10_funds_78 (tgt := 84) (by decide) h (fun h => ?_) (fun h => ?_)
              · refine v_sipush C dX10_funds_84 ks_144 ?_
                refine v_bipush C dX10_funds_87 kb_7 ?_
                refine v_aload_n C dX10_funds_89 rfl rfl ?_
                refine gf_X10_13 C dX10_funds_90 ?_
                refine v_iconst C dX10_funds_93 ki_3 ?_
                refine ld_19 C dX10_funds_94 h (fun h => ?_)
                refine v_imul C dX10_funds_95 ?_
                refine v_iadd C dX10_funds_96 ?_
                refine v_istore C dX10_funds_97 (Nat.le_of_ble_eq_true rfl) (lc1 := [some (.ref (ad G 10 0 0)), some (.int a1), some (.int a2), some (.int a3), some (.int a4), some (.int ((144 : Int32) + ((7 : Int32) * (σ10.1 304 0 (3 : Int32).toNatClampNeg)))), none]) rfl ?_
                refine v_iconst C dX10_funds_99 ki_0 ?_
                refine v_istore C dX10_funds_100 (Nat.le_of_ble_eq_true rfl) (lc1 := [some (.ref (ad G 10 0 0)), some (.int a1), some (.int a2), some (.int a3), some (.int a4), some (.int ((144 : Int32) + ((7 : Int32) * (σ10.1 304 0 (3 : Int32).toNatClampNeg)))), some (.int (0 : Int32))]) rfl ?_
                refine v_loop1 (fun x13 σ12 => V X G 0 0 (QE X G (some (.int r)) τ) σ12 102 [some (.ref (ad G 10 0 0)), some (.int a1), some (.int a2), some (.int a3), some (.int a4), some (.int ((144 : Int32) + ((7 : Int32) * (σ10.1 304 0 (3 : Int32).toNatClampNeg)))), some (.int x13)] []) (fun rec11 hrec11 x13 σ12 h => ?_) h
                refine v_iload C dX10_funds_102 rfl ?_
                refine v_bipush C dX10_funds_104 kb_7 ?_
                refine v_icmp_ge C dX10_funds_106 (tgt := 126) (by decide) h (fun h => ?_) (fun h => ?_)
                · refine v_aload_n C dX10_funds_126 rfl rfl ?_
                  refine gf_X10_13 C dX10_funds_127 ?_
                  refine v_iload C dX10_funds_130 rfl ?_
                  refine v_iconst C dX10_funds_132 ki_0 ?_
                  refine v_iadd C dX10_funds_133 ?_
                  refine v_iload_n C dX10_funds_134 rfl rfl ?_
                  refine as_19 C dX10_funds_135 h (fun h => ?_)
                  refine v_aload_n C dX10_funds_136 rfl rfl ?_
                  refine gf_X10_13 C dX10_funds_137 ?_
                  refine v_iload C dX10_funds_140 rfl ?_
                  refine v_iconst C dX10_funds_142 ki_1 ?_
                  refine v_iadd C dX10_funds_143 ?_
                  refine v_iload_n C dX10_funds_144 rfl rfl ?_
                  refine as_19 C dX10_funds_145 h (fun h => ?_)
                  refine v_lt h (fun σ14 h => ?_)
                  refine v_aload_n C dX10_funds_146 rfl rfl ?_
                  refine gf_X10_13 C dX10_funds_147 ?_
                  refine v_iload C dX10_funds_150 rfl ?_
                  refine v_iconst C dX10_funds_152 ki_2 ?_
                  refine v_iadd C dX10_funds_153 ?_
                  refine v_iload_n C dX10_funds_154 rfl rfl ?_
                  refine as_19 C dX10_funds_155 h (fun h => ?_)
                  refine v_aload_n C dX10_funds_156 rfl rfl ?_
                  refine gf_X10_13 C dX10_funds_157 ?_
                  refine v_iload C dX10_funds_160 rfl ?_
                  refine v_iconst C dX10_funds_162 ki_3 ?_
                  refine v_iadd C dX10_funds_163 ?_
                  refine v_iload C dX10_funds_164 rfl ?_
                  refine as_19 C dX10_funds_166 h (fun h => ?_)
                  refine v_lt h (fun σ15 h => ?_)
                  refine v_aload_n C dX10_funds_167 rfl rfl ?_
                  refine gf_X10_13 C dX10_funds_168 ?_
                  refine v_iload C dX10_funds_171 rfl ?_
                  refine v_iconst C dX10_funds_173 ki_4 ?_
                  refine v_iadd C dX10_funds_174 ?_
                  refine v_iload C dX10_funds_175 rfl ?_
                  refine as_19 C dX10_funds_177 h (fun h => ?_)
                  refine v_aload_n C dX10_funds_178 rfl rfl ?_
                  refine gf_X10_13 C dX10_funds_179 ?_
                  refine v_iconst C dX10_funds_182 ki_3 ?_
                  refine v_dup2 C dX10_funds_183 rfl rfl ?_
                  refine ld_19 C dX10_funds_184 h (fun h => ?_)
                  refine v_iconst C dX10_funds_185 ki_1 ?_
                  refine v_iadd C dX10_funds_186 ?_
                  refine as_19 C dX10_funds_187 h (fun h => ?_)
                  refine v_lt h (fun σ16 h => ?_)
                  refine v_aload_n C dX10_funds_188 rfl rfl ?_
                  refine gf_X10_13 C dX10_funds_189 ?_
                  refine v_bipush C dX10_funds_192 kb_10 ?_
                  refine v_iconst C dX10_funds_194 ki_3 ?_
                  refine v_iload_n C dX10_funds_195 rfl rfl ?_
                  refine v_imul C dX10_funds_196 ?_
                  refine v_iadd C dX10_funds_197 ?_
                  refine v_dup2 C dX10_funds_198 rfl rfl ?_
                  refine ld_19 C dX10_funds_199 h (fun h => ?_)
                  refine v_iload C dX10_funds_200 rfl ?_
                  refine v_isub C dX10_funds_202 ?_
                  refine as_19 C dX10_funds_203 h (fun h => ?_)
                  refine v_aload_n C dX10_funds_204 rfl rfl ?_
                  refine v_iload_n C dX10_funds_205 rfl rfl ?_
                  refine cVi C 10 0 0 (av := [.int a2]) si_X10_missing lk_X10_87 (ok10) rfl rfl rfl rfl (st := []) rfl (Nat.le_of_ble_eq_true rfl) dX10_funds_206 h (fun _ _ hc => s_X10_missing (d := d) a2  hc) (fun r17 σ18 h => ?_)
                  refine v_istore C dX10_funds_209 (Nat.le_of_ble_eq_true rfl) (lc1 := [some (.ref (ad G 10 0 0)), some (.int a1), some (.int a2), some (.int a3), some (.int a4), some (.int ((144 : Int32) + ((7 : Int32) * (σ10.1 304 0 (3 : Int32).toNatClampNeg)))), some (.int r17)]) rfl ?_
                  refine v_iload C dX10_funds_211 rfl ?_
                  refine v_if_ne C dX10_funds_213 (tgt := 256) (by decide) h (fun h => ?_) (fun h => ?_)
                  · refine v_iload C dX10_funds_256 rfl ?_
                    exact v_iret C dX10_funds_258 h
                  · refine v_aload_n C dX10_funds_216 rfl rfl ?_
                    refine v_iload_n C dX10_funds_217 rfl rfl ?_
                    refine v_iconst C dX10_funds_218 ki_3 ?_
                    refine v_iconst C dX10_funds_219 ki_1 ?_
                    refine cVv C 10 0 0 (av := [.int a2, .int (3 : Int32), .int (1 : Int32)]) si_X10_be lk_X10_74 (ok10) rfl rfl rfl rfl (st := []) rfl (Nat.le_of_ble_eq_true rfl) dX10_funds_220 h (fun _ hc => s_X10_be (d := (d + 2)) a2 (3 : Int32) (1 : Int32)  hc) (fun σ20 h => ?_)
                    refine v_aload_n C dX10_funds_223 rfl rfl ?_
                    refine v_iload_n C dX10_funds_224 rfl rfl ?_
                    refine v_iconst C dX10_funds_225 ki_4 ?_
                    refine v_aload_n C dX10_funds_226 rfl rfl ?_
                    refine v_iload_n C dX10_funds_227 rfl rfl ?_
                    refine v_iconst C dX10_funds_228 ki_0 ?_
                    refine cVi C 10 0 0 (av := [.int a2, .int (0 : Int32)]) si_X10_of lk_X10_42 (ok10) rfl rfl rfl rfl (st := [.int (4 : Int32), .int a2, .ref (ad G 10 0 0)]) rfl (Nat.le_of_ble_eq_true rfl) dX10_funds_229 h (fun _ _ hc => s_X10_of (d := (d + 2)) a2 (0 : Int32)  hc) (fun r21 σ22 h => ?_)
                    refine cVv C 10 0 0 (av := [.int a2, .int (4 : Int32), .int r21]) si_X10_be lk_X10_74 (ok10) rfl rfl rfl rfl (st := []) rfl (Nat.le_of_ble_eq_true rfl) dX10_funds_232 h (fun _ hc => s_X10_be (d := (d + 2)) a2 (4 : Int32) r21  hc) (fun σ24 h => ?_)
                    refine v_aload_n C dX10_funds_235 rfl rfl ?_
                    refine v_iload_n C dX10_funds_236 rfl rfl ?_
                    refine v_iconst C dX10_funds_237 ki_5 ?_
                    refine v_aload_n C dX10_funds_238 rfl rfl ?_
                    refine v_iload_n C dX10_funds_239 rfl rfl ?_
                    refine v_iconst C dX10_funds_240 ki_0 ?_
                    refine cVi C 10 0 0 (av := [.int a2, .int (0 : Int32)]) si_X10_of lk_X10_42 (ok10) rfl rfl rfl rfl (st := [.int (5 : Int32), .int a2, .ref (ad G 10 0 0)]) rfl (Nat.le_of_ble_eq_true rfl) dX10_funds_241 h (fun _ _ hc => s_X10_of (d := (d + 2)) a2 (0 : Int32)  hc) (fun r25 σ26 h => ?_)
                    refine v_aload_n C dX10_funds_244 rfl rfl ?_
                    refine v_iload_n C dX10_funds_245 rfl rfl ?_
                    refine v_iconst C dX10_funds_246 ki_2 ?_
                    refine cVi C 10 0 0 (av := [.int a2, .int (2 : Int32)]) si_X10_of lk_X10_42 (ok10) rfl rfl rfl rfl (st := [.int r25, .int (5 : Int32), .int a2, .ref (ad G 10 0 0)]) rfl (Nat.le_of_ble_eq_true rfl) dX10_funds_247 h (fun _ _ hc => s_X10_of (d := (d + 2)) a2 (2 : Int32)  hc) (fun r27 σ28 h => ?_)
                    refine cSi C (av := [.int r25, .int r27]) si_X10_upwards lk_X10_90 rfl rfl (st := [.int (5 : Int32), .int a2, .ref (ad G 10 0 0)]) rfl (Nat.le_of_ble_eq_true rfl) dX10_funds_250 h (fun _ _ hc => s_X10_upwards (d := (d + 2)) r25 r27  hc) (fun r29 σ30 h => ?_)
                    refine cVv C 10 0 0 (av := [.int a2, .int (5 : Int32), .int r29]) si_X10_be lk_X10_74 (ok10) rfl rfl rfl rfl (st := []) rfl (Nat.le_of_ble_eq_true rfl) dX10_funds_253 h (fun _ hc => s_X10_be (d := (d + 2)) a2 (5 : Int32) r29  hc) (fun σ32 h => ?_)
                    refine v_iload C dX10_funds_256 rfl ?_
                    exact v_iret C dX10_funds_258 h
                · refine v_aload_n C dX10_funds_109 rfl rfl ?_
                  refine gf_X10_13 C dX10_funds_110 ?_
                  refine v_iload C dX10_funds_113 rfl ?_
                  refine v_iload C dX10_funds_115 rfl ?_
                  refine v_iadd C dX10_funds_117 ?_
                  refine v_iconst C dX10_funds_118 ki_0 ?_
                  refine as_19 C dX10_funds_119 h (fun h => ?_)
                  refine v_iinc C dX10_funds_120 rfl (kc_1 _) (lc1 := [some (.ref (ad G 10 0 0)), some (.int a1), some (.int a2), some (.int a3), some (.int a4), some (.int ((144 : Int32) + ((7 : Int32) * (σ10.1 304 0 (3 : Int32).toNatClampNeg)))), some (.int (x13 + 1))]) rfl ?_
                  refine v_goto C dX10_funds_123 (tgt := 102) (by decide) ?_
                  refine v_mask [true, true, true, true, true, true, true] (lc' := [some (.ref (ad G 10 0 0)), some (.int a1), some (.int a2), some (.int a3), some (.int a4), some (.int ((144 : Int32) + ((7 : Int32) * (σ10.1 304 0 (3 : Int32).toNatClampNeg)))), some (.int (x13 + 1))]) rfl ?_
                  exact hrec11 _ _ h
              · refine v_bipush C dX10_funds_81 kb_m3 ?_
                exact v_iret C dX10_funds_83 h
            · refine v_bipush C dX10_funds_67 kb_m4 ?_
              exact v_iret C dX10_funds_69 h
      · refine v_bipush C dX10_funds_29 kb_m2 ?_
        exact v_iret C dX10_funds_31 h
    · refine v_iconst C dX10_funds_16 ki_m1 ?_
      exact v_iret C dX10_funds_17 h

def dc_X10_fund (a1 : Int32) (a2 : Int32) (a3 : Int32) (a4 : Int32) (σ : Sto) : Option (Int32 × Sto) :=
  (bv (dc_X10_aside  σ) fun σ2 => jn (fun (v3 : Int32) => (bd (dc_X10_funds a1 a2 v3 a4 σ2) fun r5 σ6 => (if 0 ≤ r5 then (bd (dc_X10_acted r5 σ6) fun r7 σ8 => some (r7, σ8)) else some (r5, σ6)))) (fun k4 => (if a3 = 0 then k4 (0 : Int32) else k4 (1 : Int32))))
set_option maxRecDepth 20000 in
set_option maxHeartbeats 4000000 in
theorem s_X10_fund {G : Gm} {d : Nat} (a1 : Int32) (a2 : Int32) (a3 : Int32) (a4 : Int32) {σ τ : Sto} {r : Int32} (h : dc_X10_fund a1 a2 a3 a4 σ = some (r, τ)) : Cl G (d + 4) m_X10_fund [.ref (ad G 10 0 0), .int a1, .int a2, .int a3, .int a4] σ (some (.int r)) τ := by
  unfold dc_X10_fund at h
  refine Cl.mk (cc := cX10_fund) (own := RX10) (nL := 6) (ret := (some .int)) rfl rfl rfl rfl (by decide +kernel) (catA rfl) (Nat.le_of_ble_eq_true rfl) (fun X C => ?_)
  show V X G 0 0 (QE X G (some (.int r)) τ) σ 0 [some (.ref (ad G 10 0 0)), some (.int a1), some (.int a2), some (.int a3), some (.int a4), none] []
  refine v_aload_n C dX10_fund_0 rfl rfl ?_
  refine cVv C 10 0 0 (av := []) si_X10_aside lk_X10_58 (ok10) rfl rfl rfl rfl (st := []) rfl (Nat.le_of_ble_eq_true rfl) dX10_fund_1 h (fun _ hc => s_X10_aside (d := (d + 3))   hc) (fun σ2 h => ?_)
  refine v_aload_n C dX10_fund_4 rfl rfl ?_
  refine v_iload_n C dX10_fund_5 rfl rfl ?_
  refine v_iload_n C dX10_fund_6 rfl rfl ?_
  refine v_iload_n C dX10_fund_7 rfl rfl ?_
  refine v_join (fun k => ∀ (v3 : Int32), k v3 = some (r, τ) → V X G 0 0 (QE X G (some (.int r)) τ) σ2 16 [some (.ref (ad G 10 0 0)), some (.int a1), some (.int a2), some (.int a3), some (.int a4), none] [.int v3, .int a2, .int a1, .ref (ad G 10 0 0)]) h (fun v3 h => ?_) (fun k4 hk4 h => ?_)
  · refine v_iload C dX10_fund_16 rfl ?_
    refine cVi C 10 0 0 (av := [.int a1, .int a2, .int v3, .int a4]) si_X10_funds lk_X10_93 (ok10) rfl rfl rfl rfl (st := []) rfl (Nat.le_of_ble_eq_true rfl) dX10_fund_18 h (fun _ _ hc => s_X10_funds (d := d) a1 a2 v3 a4  hc) (fun r5 σ6 h => ?_)
    refine v_istore C dX10_fund_21 (Nat.le_of_ble_eq_true rfl) (lc1 := [some (.ref (ad G 10 0 0)), some (.int a1), some (.int a2), some (.int a3), some (.int a4), some (.int r5)]) rfl ?_
    refine v_iload C dX10_fund_23 rfl ?_
    refine v_if_ge C dX10_fund_25 (tgt := 33) (by decide) h (fun h => ?_) (fun h => ?_)
    · refine v_aload_n C dX10_fund_33 rfl rfl ?_
      refine v_iload C dX10_fund_34 rfl ?_
      refine cVi C 10 0 0 (av := [.int r5]) si_X10_acted lk_X10_61 (ok10) rfl rfl rfl rfl (st := []) rfl (Nat.le_of_ble_eq_true rfl) dX10_fund_36 h (fun _ _ hc => s_X10_acted (d := (d + 2)) r5  hc) (fun r7 σ8 h => ?_)
      exact v_iret C dX10_fund_39 h
    · refine v_iload C dX10_fund_28 rfl ?_
      refine v_goto C dX10_fund_30 (tgt := 39) (by decide) ?_
      exact v_iret C dX10_fund_39 h
  · refine v_if_eq C dX10_fund_8 (tgt := 15) (by decide) h (fun h => ?_) (fun h => ?_)
    · refine v_iconst C dX10_fund_15 ki_0 ?_
      refine v_mask [true, true, true, true, true, false] (lc' := [some (.ref (ad G 10 0 0)), some (.int a1), some (.int a2), some (.int a3), some (.int a4), none]) rfl ?_
      exact hk4 _ h
    · refine v_iconst C dX10_fund_11 ki_1 ?_
      refine v_goto C dX10_fund_12 (tgt := 16) (by decide) ?_
      refine v_mask [true, true, true, true, true, false] (lc' := [some (.ref (ad G 10 0 0)), some (.int a1), some (.int a2), some (.int a3), some (.int a4), none]) rfl ?_
      exact hk4 _ h

def dc_X10_ends (a1 : Int32) (a2 : Int32) (σ : Sto) : Option Sto :=
  (bv (dc_X10_be a1 (3 : Int32) a2 σ) fun σ2 => (bv (dc_X10_be a1 (8 : Int32) (0 : Int32) σ2) fun σ4 => (bv (dc_X10_be a1 (10 : Int32) (-5 : Int32) σ4) fun σ6 => some σ6)))
set_option maxRecDepth 20000 in
set_option maxHeartbeats 4000000 in
theorem s_X10_ends {G : Gm} {d : Nat} (a1 : Int32) (a2 : Int32) {σ τ : Sto} (h : dc_X10_ends a1 a2 σ = some τ) : Cl G (d + 1) m_X10_ends [.ref (ad G 10 0 0), .int a1, .int a2] σ none τ := by
  unfold dc_X10_ends at h
  refine Cl.mk (cc := cX10_ends) (own := RX10) (nL := 3) (ret := none) rfl rfl rfl rfl (by decide +kernel) (catA rfl) (Nat.le_of_ble_eq_true rfl) (fun X C => ?_)
  show V X G 0 0 (QE X G none τ) σ 0 [some (.ref (ad G 10 0 0)), some (.int a1), some (.int a2)] []
  refine v_aload_n C dX10_ends_0 rfl rfl ?_
  refine v_iload_n C dX10_ends_1 rfl rfl ?_
  refine v_iconst C dX10_ends_2 ki_3 ?_
  refine v_iload_n C dX10_ends_3 rfl rfl ?_
  refine cVv C 10 0 0 (av := [.int a1, .int (3 : Int32), .int a2]) si_X10_be lk_X10_74 (ok10) rfl rfl rfl rfl (st := []) rfl (Nat.le_of_ble_eq_true rfl) dX10_ends_4 h (fun _ hc => s_X10_be (d := d) a1 (3 : Int32) a2  hc) (fun σ2 h => ?_)
  refine v_aload_n C dX10_ends_7 rfl rfl ?_
  refine v_iload_n C dX10_ends_8 rfl rfl ?_
  refine v_bipush C dX10_ends_9 kb_8 ?_
  refine v_iconst C dX10_ends_11 ki_0 ?_
  refine cVv C 10 0 0 (av := [.int a1, .int (8 : Int32), .int (0 : Int32)]) si_X10_be lk_X10_74 (ok10) rfl rfl rfl rfl (st := []) rfl (Nat.le_of_ble_eq_true rfl) dX10_ends_12 h (fun _ hc => s_X10_be (d := d) a1 (8 : Int32) (0 : Int32)  hc) (fun σ4 h => ?_)
  refine v_aload_n C dX10_ends_15 rfl rfl ?_
  refine v_iload_n C dX10_ends_16 rfl rfl ?_
  refine v_bipush C dX10_ends_17 kb_10 ?_
  refine v_bipush C dX10_ends_19 kb_m5 ?_
  refine cVv C 10 0 0 (av := [.int a1, .int (10 : Int32), .int (-5 : Int32)]) si_X10_be lk_X10_74 (ok10) rfl rfl rfl rfl (st := []) rfl (Nat.le_of_ble_eq_true rfl) dX10_ends_21 h (fun _ hc => s_X10_be (d := d) a1 (10 : Int32) (-5 : Int32)  hc) (fun σ6 h => ?_)
  exact v_vret C dX10_ends_24 h
