/-! by program (wip/p28/walk.py): X2_dropOldest X3_copyFrom X4_copyFrom X6_copyFrom X5_copyFrom X2_record X3_open X4_open X9_dividedUp X4_start X4_end X4_passMonth X4_takePayment X5_hasInvestor X5_hasLoan X5_hasNote X5_runs X5_cashOf X5_give X5_principals X5_missing X5_fundingError X6_open X5_addNote X9_isServicer X5_takePayment -/
def dc_X2_dropOldest  (σ : Sto) : Option Sto :=
  (if inb (0 : Int32) 4 then wh1 (fun (rec2 : Int32 → Sto → Option Sto) (x4 : Int32) (σ3 : Sto) => (if (4 : Int32) ≤ x4 then (if inb ((4 : Int32) - (1 : Int32)) 4 then (lt (up (upH σ3 ((4 : Int32) - (1 : Int32)).toNatClampNeg (σ.2 (0 : Int32).toNatClampNeg)) 33 0 0 ((4 : Int32) - (1 : Int32))) fun σ5 => some σ5) else none) else (if inb x4 4 then (if inb (x4 - (1 : Int32)) 4 then rec2 (x4 + 1) (upH σ3 (x4 - (1 : Int32)).toNatClampNeg (σ3.2 x4.toNatClampNeg)) else none) else none))) FU (1 : Int32) σ else none)
set_option maxRecDepth 20000 in
set_option maxHeartbeats 4000000 in
theorem s_X2_dropOldest {G : Gm} {d : Nat}  {σ τ : Sto} (h : dc_X2_dropOldest  σ = some τ) : Cl G d m_X2_dropOldest [.ref (ad G 2 0 0)] σ none τ := by
  unfold dc_X2_dropOldest at h
  refine Cl.mk (cc := cX2_dropOldest) (own := RX2) (nL := 3) (ret := none) rfl rfl rfl rfl (by decide +kernel) (catA rfl) (Nat.le_of_ble_eq_true rfl) (fun X C => ?_)
  show V X G 0 0 (QE X G none τ) σ 0 [some (.ref (ad G 2 0 0)), none, none] []
  refine v_aload_n C dX2_dropOldest_0 rfl rfl ?_
  refine gf_X2_11 C dX2_dropOldest_1 ?_
  refine v_iconst C dX2_dropOldest_4 ki_0 ?_
  refine lq_15 C dX2_dropOldest_5 h (fun h hq1 => ?_)
  refine v_astore_n C dX2_dropOldest_6 rfl (Nat.le_of_ble_eq_true rfl) (lc1 := [some (.ref (ad G 2 0 0)), some (.ref (ad G 5 (σ.2 (0 : Int32).toNatClampNeg) 0)), none]) rfl ?_
  refine v_iconst C dX2_dropOldest_7 ki_1 ?_
  refine v_istore_n C dX2_dropOldest_8 rfl (Nat.le_of_ble_eq_true rfl) (lc1 := [some (.ref (ad G 2 0 0)), some (.ref (ad G 5 (σ.2 (0 : Int32).toNatClampNeg) 0)), some (.int (1 : Int32))]) rfl ?_
  refine v_loop1 (fun x4 σ3 => V X G 0 0 (QE X G none τ) σ3 9 [some (.ref (ad G 2 0 0)), some (.ref (ad G 5 (σ.2 (0 : Int32).toNatClampNeg) 0)), some (.int x4)] []) (fun rec2 hrec2 x4 σ3 h => ?_) h
  refine v_iload_n C dX2_dropOldest_9 rfl rfl ?_
  refine v_aload_n C dX2_dropOldest_10 rfl rfl ?_
  refine gf_X2_11 C dX2_dropOldest_11 ?_
  refine al_15 C dX2_dropOldest_14 ?_
  refine v_icmp_ge C dX2_dropOldest_15 (tgt := 38) (by decide) h (fun h => ?_) (fun h => ?_)
  · refine v_aload_n C dX2_dropOldest_38 rfl rfl ?_
    refine gf_X2_11 C dX2_dropOldest_39 ?_
    refine v_aload_n C dX2_dropOldest_42 rfl rfl ?_
    refine gf_X2_11 C dX2_dropOldest_43 ?_
    refine al_15 C dX2_dropOldest_46 ?_
    refine v_iconst C dX2_dropOldest_47 ki_1 ?_
    refine v_isub C dX2_dropOldest_48 ?_
    refine v_aload_n C dX2_dropOldest_49 rfl rfl ?_
    refine v_aast C (σ.2 (0 : Int32).toNatClampNeg) hq1 dX2_dropOldest_50 h (fun h => ?_)
    refine v_aload_n C dX2_dropOldest_51 rfl rfl ?_
    refine v_aload_n C dX2_dropOldest_52 rfl rfl ?_
    refine gf_X2_11 C dX2_dropOldest_53 ?_
    refine al_15 C dX2_dropOldest_56 ?_
    refine v_iconst C dX2_dropOldest_57 ki_1 ?_
    refine v_isub C dX2_dropOldest_58 ?_
    refine pf_X2_17 C dX2_dropOldest_59 ?_
    refine v_lt h (fun σ5 h => ?_)
    exact v_vret C dX2_dropOldest_62 h
  · refine v_aload_n C dX2_dropOldest_18 rfl rfl ?_
    refine gf_X2_11 C dX2_dropOldest_19 ?_
    refine v_iload_n C dX2_dropOldest_22 rfl rfl ?_
    refine v_iconst C dX2_dropOldest_23 ki_1 ?_
    refine v_isub C dX2_dropOldest_24 ?_
    refine v_aload_n C dX2_dropOldest_25 rfl rfl ?_
    refine gf_X2_11 C dX2_dropOldest_26 ?_
    refine v_iload_n C dX2_dropOldest_29 rfl rfl ?_
    refine lq_15 C dX2_dropOldest_30 h (fun h hq6 => ?_)
    refine v_aast C (σ3.2 x4.toNatClampNeg) hq6 dX2_dropOldest_31 h (fun h => ?_)
    refine v_iinc C dX2_dropOldest_32 rfl (kc_1 _) (lc1 := [some (.ref (ad G 2 0 0)), some (.ref (ad G 5 (σ.2 (0 : Int32).toNatClampNeg) 0)), some (.int (x4 + 1))]) rfl ?_
    refine v_goto C dX2_dropOldest_35 (tgt := 9) (by decide) ?_
    refine v_mask [true, true, true] (lc' := [some (.ref (ad G 2 0 0)), some (.ref (ad G 5 (σ.2 (0 : Int32).toNatClampNeg) 0)), some (.int (x4 + 1))]) rfl ?_
    exact hrec2 _ _ h

def dc_X3_copyFrom (j0 : Nat) (l0 : Nat) (j1 : Nat) (l1 : Nat) (σ : Sto) : Option Sto :=
  (lt (up (up σ 48 j0 l0 (σ.1 48 j1 l1)) 49 j0 l0 ((up σ 48 j0 l0 (σ.1 48 j1 l1)).1 49 j1 l1)) fun σ1 => some (up σ1 50 j0 l0 (σ1.1 50 j1 l1)))
set_option maxRecDepth 20000 in
set_option maxHeartbeats 4000000 in
theorem s_X3_copyFrom {G : Gm} {d : Nat} (j0 : Nat) (l0 : Nat) (j1 : Nat) (l1 : Nat) (hj0 : j0 < 7) (hl0 : l0 < 8) (hj1 : j1 < 7) (hl1 : l1 < 8) {σ τ : Sto} (h : dc_X3_copyFrom j0 l0 j1 l1 σ = some τ) : Cl G d m_X3_copyFrom [.ref (ad G 3 j0 l0), .ref (ad G 3 j1 l1)] σ none τ := by
  unfold dc_X3_copyFrom at h
  refine Cl.mk (cc := cX3_copyFrom) (own := RX3) (nL := 2) (ret := none) rfl rfl rfl rfl (by decide +kernel) (catA rfl) (Nat.le_of_ble_eq_true rfl) (fun X C => ?_)
  show V X G 0 0 (QE X G none τ) σ 0 [some (.ref (ad G 3 j0 l0)), some (.ref (ad G 3 j1 l1))] []
  refine v_aload_n C dX3_copyFrom_0 rfl rfl ?_
  refine v_aload_n C dX3_copyFrom_1 rfl rfl ?_
  refine gf_X3_7 C hj1 hl1 dX3_copyFrom_2 ?_
  refine pf_X3_7 C hj0 hl0 dX3_copyFrom_5 ?_
  refine v_aload_n C dX3_copyFrom_8 rfl rfl ?_
  refine v_aload_n C dX3_copyFrom_9 rfl rfl ?_
  refine gf_X3_13 C hj1 hl1 dX3_copyFrom_10 ?_
  refine pf_X3_13 C hj0 hl0 dX3_copyFrom_13 ?_
  refine v_lt h (fun σ1 h => ?_)
  refine v_aload_n C dX3_copyFrom_16 rfl rfl ?_
  refine v_aload_n C dX3_copyFrom_17 rfl rfl ?_
  refine gf_X3_16 C hj1 hl1 dX3_copyFrom_18 ?_
  refine pf_X3_16 C hj0 hl0 dX3_copyFrom_21 ?_
  exact v_vret C dX3_copyFrom_24 h

def dc_X4_copyFrom (j0 : Nat) (l0 : Nat) (j1 : Nat) (l1 : Nat) (σ : Sto) : Option Sto :=
  (lt (up (up σ 64 j0 l0 (σ.1 64 j1 l1)) 65 j0 l0 ((up σ 64 j0 l0 (σ.1 64 j1 l1)).1 65 j1 l1)) fun σ1 => (lt (up (up σ1 66 j0 l0 (σ1.1 66 j1 l1)) 67 j0 l0 ((up σ1 66 j0 l0 (σ1.1 66 j1 l1)).1 67 j1 l1)) fun σ2 => (lt (up (up σ2 68 j0 l0 (σ2.1 68 j1 l1)) 69 j0 l0 ((up σ2 68 j0 l0 (σ2.1 68 j1 l1)).1 69 j1 l1)) fun σ3 => (lt (up (up σ3 70 j0 l0 (σ3.1 70 j1 l1)) 71 j0 l0 ((up σ3 70 j0 l0 (σ3.1 70 j1 l1)).1 71 j1 l1)) fun σ4 => (lt (up (up σ4 72 j0 l0 (σ4.1 72 j1 l1)) 73 j0 l0 ((up σ4 72 j0 l0 (σ4.1 72 j1 l1)).1 73 j1 l1)) fun σ5 => some (up σ5 74 j0 l0 (σ5.1 74 j1 l1)))))))
set_option maxRecDepth 20000 in
set_option maxHeartbeats 4000000 in
theorem s_X4_copyFrom {G : Gm} {d : Nat} (j0 : Nat) (l0 : Nat) (j1 : Nat) (l1 : Nat) (hj0 : j0 < 7) (hl0 : l0 < 10) (hj1 : j1 < 7) (hl1 : l1 < 10) {σ τ : Sto} (h : dc_X4_copyFrom j0 l0 j1 l1 σ = some τ) : Cl G d m_X4_copyFrom [.ref (ad G 4 j0 l0), .ref (ad G 4 j1 l1)] σ none τ := by
  unfold dc_X4_copyFrom at h
  refine Cl.mk (cc := cX4_copyFrom) (own := RX4) (nL := 2) (ret := none) rfl rfl rfl rfl (by decide +kernel) (catA rfl) (Nat.le_of_ble_eq_true rfl) (fun X C => ?_)
  show V X G 0 0 (QE X G none τ) σ 0 [some (.ref (ad G 4 j0 l0)), some (.ref (ad G 4 j1 l1))] []
  refine v_aload_n C dX4_copyFrom_0 rfl rfl ?_
  refine v_aload_n C dX4_copyFrom_1 rfl rfl ?_
  refine gf_X4_9 C hj1 hl1 dX4_copyFrom_2 ?_
  refine pf_X4_9 C hj0 hl0 dX4_copyFrom_5 ?_
  refine v_aload_n C dX4_copyFrom_8 rfl rfl ?_
  refine v_aload_n C dX4_copyFrom_9 rfl rfl ?_
  refine gf_X4_15 C hj1 hl1 dX4_copyFrom_10 ?_
  refine pf_X4_15 C hj0 hl0 dX4_copyFrom_13 ?_
  refine v_lt h (fun σ1 h => ?_)
  refine v_aload_n C dX4_copyFrom_16 rfl rfl ?_
  refine v_aload_n C dX4_copyFrom_17 rfl rfl ?_
  refine gf_X4_18 C hj1 hl1 dX4_copyFrom_18 ?_
  refine pf_X4_18 C hj0 hl0 dX4_copyFrom_21 ?_
  refine v_aload_n C dX4_copyFrom_24 rfl rfl ?_
  refine v_aload_n C dX4_copyFrom_25 rfl rfl ?_
  refine gf_X4_21 C hj1 hl1 dX4_copyFrom_26 ?_
  refine pf_X4_21 C hj0 hl0 dX4_copyFrom_29 ?_
  refine v_lt h (fun σ2 h => ?_)
  refine v_aload_n C dX4_copyFrom_32 rfl rfl ?_
  refine v_aload_n C dX4_copyFrom_33 rfl rfl ?_
  refine gf_X4_24 C hj1 hl1 dX4_copyFrom_34 ?_
  refine pf_X4_24 C hj0 hl0 dX4_copyFrom_37 ?_
  refine v_aload_n C dX4_copyFrom_40 rfl rfl ?_
  refine v_aload_n C dX4_copyFrom_41 rfl rfl ?_
  refine gf_X4_27 C hj1 hl1 dX4_copyFrom_42 ?_
  refine pf_X4_27 C hj0 hl0 dX4_copyFrom_45 ?_
  refine v_lt h (fun σ3 h => ?_)
  refine v_aload_n C dX4_copyFrom_48 rfl rfl ?_
  refine v_aload_n C dX4_copyFrom_49 rfl rfl ?_
  refine gf_X4_30 C hj1 hl1 dX4_copyFrom_50 ?_
  refine pf_X4_30 C hj0 hl0 dX4_copyFrom_53 ?_
  refine v_aload_n C dX4_copyFrom_56 rfl rfl ?_
  refine v_aload_n C dX4_copyFrom_57 rfl rfl ?_
  refine gf_X4_33 C hj1 hl1 dX4_copyFrom_58 ?_
  refine pf_X4_33 C hj0 hl0 dX4_copyFrom_61 ?_
  refine v_lt h (fun σ4 h => ?_)
  refine v_aload_n C dX4_copyFrom_64 rfl rfl ?_
  refine v_aload_n C dX4_copyFrom_65 rfl rfl ?_
  refine gf_X4_36 C hj1 hl1 dX4_copyFrom_66 ?_
  refine pf_X4_36 C hj0 hl0 dX4_copyFrom_69 ?_
  refine v_aload_n C dX4_copyFrom_72 rfl rfl ?_
  refine v_aload_n C dX4_copyFrom_73 rfl rfl ?_
  refine gf_X4_39 C hj1 hl1 dX4_copyFrom_74 ?_
  refine pf_X4_39 C hj0 hl0 dX4_copyFrom_77 ?_
  refine v_lt h (fun σ5 h => ?_)
  refine v_aload_n C dX4_copyFrom_80 rfl rfl ?_
  refine v_aload_n C dX4_copyFrom_81 rfl rfl ?_
  refine gf_X4_42 C hj1 hl1 dX4_copyFrom_82 ?_
  refine pf_X4_42 C hj0 hl0 dX4_copyFrom_85 ?_
  exact v_vret C dX4_copyFrom_88 h

def dc_X6_copyFrom (j0 : Nat) (l0 : Nat) (j1 : Nat) (l1 : Nat) (σ : Sto) : Option Sto :=
  (lt (up (up σ 96 j0 l0 (σ.1 96 j1 l1)) 97 j0 l0 ((up σ 96 j0 l0 (σ.1 96 j1 l1)).1 97 j1 l1)) fun σ1 => (lt (up (up σ1 98 j0 l0 (σ1.1 98 j1 l1)) 99 j0 l0 ((up σ1 98 j0 l0 (σ1.1 98 j1 l1)).1 99 j1 l1)) fun σ2 => (lt (up (up σ2 100 j0 l0 (σ2.1 100 j1 l1)) 101 j0 l0 ((up σ2 100 j0 l0 (σ2.1 100 j1 l1)).1 101 j1 l1)) fun σ3 => some (up σ3 102 j0 l0 (σ3.1 102 j1 l1)))))
set_option maxRecDepth 20000 in
set_option maxHeartbeats 4000000 in
theorem s_X6_copyFrom {G : Gm} {d : Nat} (j0 : Nat) (l0 : Nat) (j1 : Nat) (l1 : Nat) (hj0 : j0 < 7) (hl0 : l0 < 60) (hj1 : j1 < 7) (hl1 : l1 < 60) {σ τ : Sto} (h : dc_X6_copyFrom j0 l0 j1 l1 σ = some τ) : Cl G d m_X6_copyFrom [.ref (ad G 6 j0 l0), .ref (ad G 6 j1 l1)] σ none τ := by
  unfold dc_X6_copyFrom at h
  refine Cl.mk (cc := cX6_copyFrom) (own := RX6) (nL := 2) (ret := none) rfl rfl rfl rfl (by decide +kernel) (catA rfl) (Nat.le_of_ble_eq_true rfl) (fun X C => ?_)
  show V X G 0 0 (QE X G none τ) σ 0 [some (.ref (ad G 6 j0 l0)), some (.ref (ad G 6 j1 l1))] []
  refine v_aload_n C dX6_copyFrom_0 rfl rfl ?_
  refine v_aload_n C dX6_copyFrom_1 rfl rfl ?_
  refine gf_X6_7 C hj1 hl1 dX6_copyFrom_2 ?_
  refine pf_X6_7 C hj0 hl0 dX6_copyFrom_5 ?_
  refine v_aload_n C dX6_copyFrom_8 rfl rfl ?_
  refine v_aload_n C dX6_copyFrom_9 rfl rfl ?_
  refine gf_X6_13 C hj1 hl1 dX6_copyFrom_10 ?_
  refine pf_X6_13 C hj0 hl0 dX6_copyFrom_13 ?_
  refine v_lt h (fun σ1 h => ?_)
  refine v_aload_n C dX6_copyFrom_16 rfl rfl ?_
  refine v_aload_n C dX6_copyFrom_17 rfl rfl ?_
  refine gf_X6_16 C hj1 hl1 dX6_copyFrom_18 ?_
  refine pf_X6_16 C hj0 hl0 dX6_copyFrom_21 ?_
  refine v_aload_n C dX6_copyFrom_24 rfl rfl ?_
  refine v_aload_n C dX6_copyFrom_25 rfl rfl ?_
  refine gf_X6_19 C hj1 hl1 dX6_copyFrom_26 ?_
  refine pf_X6_19 C hj0 hl0 dX6_copyFrom_29 ?_
  refine v_lt h (fun σ2 h => ?_)
  refine v_aload_n C dX6_copyFrom_32 rfl rfl ?_
  refine v_aload_n C dX6_copyFrom_33 rfl rfl ?_
  refine gf_X6_22 C hj1 hl1 dX6_copyFrom_34 ?_
  refine pf_X6_22 C hj0 hl0 dX6_copyFrom_37 ?_
  refine v_aload_n C dX6_copyFrom_40 rfl rfl ?_
  refine v_aload_n C dX6_copyFrom_41 rfl rfl ?_
  refine gf_X6_25 C hj1 hl1 dX6_copyFrom_42 ?_
  refine pf_X6_25 C hj0 hl0 dX6_copyFrom_45 ?_
  refine v_lt h (fun σ3 h => ?_)
  refine v_aload_n C dX6_copyFrom_48 rfl rfl ?_
  refine v_aload_n C dX6_copyFrom_49 rfl rfl ?_
  refine gf_X6_28 C hj1 hl1 dX6_copyFrom_50 ?_
  refine pf_X6_28 C hj0 hl0 dX6_copyFrom_53 ?_
  exact v_vret C dX6_copyFrom_56 h

def dc_X5_copyFrom (j0 : Nat) (j1 : Nat) (σ : Sto) : Option Sto :=
  wh1 (fun (rec1 : Int32 → Sto → Option Sto) (x3 : Int32) (σ2 : Sto) => (if (8 : Int32) ≤ x3 then wh1 (fun (rec4 : Int32 → Sto → Option Sto) (x6 : Int32) (σ5 : Sto) => (if (10 : Int32) ≤ x6 then wh1 (fun (rec7 : Int32 → Sto → Option Sto) (x9 : Int32) (σ8 : Sto) => (if (60 : Int32) ≤ x9 then wh1 (fun (rec10 : Int32 → Sto → Option Sto) (x12 : Int32) (σ11 : Sto) => (if (4 : Int32) ≤ x12 then (lt (up (up σ11 84 j0 0 (σ11.1 84 j1 0)) 85 j0 0 ((up σ11 84 j0 0 (σ11.1 84 j1 0)).1 85 j1 0)) fun σ13 => (lt (up (up σ13 86 j0 0 (σ13.1 86 j1 0)) 87 j0 0 ((up σ13 86 j0 0 (σ13.1 86 j1 0)).1 87 j1 0)) fun σ14 => (lt (up (up σ14 88 j0 0 (σ14.1 88 j1 0)) 89 j0 0 ((up σ14 88 j0 0 (σ14.1 88 j1 0)).1 89 j1 0)) fun σ15 => some σ15))) else (if inb x12 4 then (if inb x12 4 then rec10 (x12 + 1) (up σ11 224 j0 x12.toNatClampNeg (σ11.1 224 j1 x12.toNatClampNeg)) else none) else none))) FU (0 : Int32) σ8 else (if inb x9 60 then (if inb x9 60 then (bv (dc_X6_copyFrom j0 x9.toNatClampNeg j1 x9.toNatClampNeg σ8) fun σ19 => rec7 (x9 + 1) σ19) else none) else none))) FU (0 : Int32) σ5 else (if inb x6 10 then (if inb x6 10 then (bv (dc_X4_copyFrom j0 x6.toNatClampNeg j1 x6.toNatClampNeg σ5) fun σ23 => rec4 (x6 + 1) σ23) else none) else none))) FU (0 : Int32) σ2 else (if inb x3 8 then (if inb x3 8 then (bv (dc_X3_copyFrom j0 x3.toNatClampNeg j1 x3.toNatClampNeg σ2) fun σ27 => rec1 (x3 + 1) σ27) else none) else none))) FU (0 : Int32) σ
set_option maxRecDepth 20000 in
set_option maxHeartbeats 4000000 in
theorem s_X5_copyFrom {G : Gm} {d : Nat} (j0 : Nat) (j1 : Nat) (hj0 : j0 < 7) (hj1 : j1 < 7) {σ τ : Sto} (h : dc_X5_copyFrom j0 j1 σ = some τ) : Cl G (d + 1) m_X5_copyFrom [.ref (ad G 5 j0 0), .ref (ad G 5 j1 0)] σ none τ := by
  unfold dc_X5_copyFrom at h
  refine Cl.mk (cc := cX5_copyFrom) (own := RX5) (nL := 3) (ret := none) rfl rfl rfl rfl (by decide +kernel) (catA rfl) (Nat.le_of_ble_eq_true rfl) (fun X C => ?_)
  show V X G 0 0 (QE X G none τ) σ 0 [some (.ref (ad G 5 j0 0)), some (.ref (ad G 5 j1 0)), none] []
  refine v_iconst C dX5_copyFrom_0 ki_0 ?_
  refine v_istore_n C dX5_copyFrom_1 rfl (Nat.le_of_ble_eq_true rfl) (lc1 := [some (.ref (ad G 5 j0 0)), some (.ref (ad G 5 j1 0)), some (.int (0 : Int32))]) rfl ?_
  refine v_loop1 (fun x3 σ2 => V X G 0 0 (QE X G none τ) σ2 2 [some (.ref (ad G 5 j0 0)), some (.ref (ad G 5 j1 0)), some (.int x3)] []) (fun rec1 hrec1 x3 σ2 h => ?_) h
  refine v_iload_n C dX5_copyFrom_2 rfl rfl ?_
  refine v_aload_n C dX5_copyFrom_3 rfl rfl ?_
  refine gf_X5_11 C hj0 dX5_copyFrom_4 ?_
  refine al_11 C hj0 dX5_copyFrom_7 ?_
  refine v_icmp_ge C dX5_copyFrom_8 (tgt := 32) (by decide) h (fun h => ?_) (fun h => ?_)
  · refine v_iconst C dX5_copyFrom_32 ki_0 ?_
    refine v_istore_n C dX5_copyFrom_33 rfl (Nat.le_of_ble_eq_true rfl) (lc1 := [some (.ref (ad G 5 j0 0)), some (.ref (ad G 5 j1 0)), some (.int (0 : Int32))]) rfl ?_
    refine v_loop1 (fun x6 σ5 => V X G 0 0 (QE X G none τ) σ5 34 [some (.ref (ad G 5 j0 0)), some (.ref (ad G 5 j1 0)), some (.int x6)] []) (fun rec4 hrec4 x6 σ5 h => ?_) h
    refine v_iload_n C dX5_copyFrom_34 rfl rfl ?_
    refine v_aload_n C dX5_copyFrom_35 rfl rfl ?_
    refine gf_X5_19 C hj0 dX5_copyFrom_36 ?_
    refine al_12 C hj0 dX5_copyFrom_39 ?_
    refine v_icmp_ge C dX5_copyFrom_40 (tgt := 64) (by decide) h (fun h => ?_) (fun h => ?_)
    · refine v_iconst C dX5_copyFrom_64 ki_0 ?_
      refine v_istore_n C dX5_copyFrom_65 rfl (Nat.le_of_ble_eq_true rfl) (lc1 := [some (.ref (ad G 5 j0 0)), some (.ref (ad G 5 j1 0)), some (.int (0 : Int32))]) rfl ?_
      refine v_loop1 (fun x9 σ8 => V X G 0 0 (QE X G none τ) σ8 66 [some (.ref (ad G 5 j0 0)), some (.ref (ad G 5 j1 0)), some (.int x9)] []) (fun rec7 hrec7 x9 σ8 h => ?_) h
      refine v_iload_n C dX5_copyFrom_66 rfl rfl ?_
      refine v_aload_n C dX5_copyFrom_67 rfl rfl ?_
      refine gf_X5_25 C hj0 dX5_copyFrom_68 ?_
      refine al_13 C hj0 dX5_copyFrom_71 ?_
      refine v_icmp_ge C dX5_copyFrom_72 (tgt := 96) (by decide) h (fun h => ?_) (fun h => ?_)
      · refine v_iconst C dX5_copyFrom_96 ki_0 ?_
        refine v_istore_n C dX5_copyFrom_97 rfl (Nat.le_of_ble_eq_true rfl) (lc1 := [some (.ref (ad G 5 j0 0)), some (.ref (ad G 5 j1 0)), some (.int (0 : Int32))]) rfl ?_
        refine v_loop1 (fun x12 σ11 => V X G 0 0 (QE X G none τ) σ11 98 [some (.ref (ad G 5 j0 0)), some (.ref (ad G 5 j1 0)), some (.int x12)] []) (fun rec10 hrec10 x12 σ11 h => ?_) h
        refine v_iload_n C dX5_copyFrom_98 rfl rfl ?_
        refine v_aload_n C dX5_copyFrom_99 rfl rfl ?_
        refine gf_X5_33 C hj0 dX5_copyFrom_100 ?_
        refine al_14 C hj0 dX5_copyFrom_103 ?_
        refine v_icmp_ge C dX5_copyFrom_104 (tgt := 125) (by decide) h (fun h => ?_) (fun h => ?_)
        · refine v_aload_n C dX5_copyFrom_125 rfl rfl ?_
          refine v_aload_n C dX5_copyFrom_126 rfl rfl ?_
          refine gf_X5_36 C hj1 dX5_copyFrom_127 ?_
          refine pf_X5_36 C hj0 dX5_copyFrom_130 ?_
          refine v_aload_n C dX5_copyFrom_133 rfl rfl ?_
          refine v_aload_n C dX5_copyFrom_134 rfl rfl ?_
          refine gf_X5_40 C hj1 dX5_copyFrom_135 ?_
          refine pf_X5_40 C hj0 dX5_copyFrom_138 ?_
          refine v_lt h (fun σ13 h => ?_)
          refine v_aload_n C dX5_copyFrom_141 rfl rfl ?_
          refine v_aload_n C dX5_copyFrom_142 rfl rfl ?_
          refine gf_X5_43 C hj1 dX5_copyFrom_143 ?_
          refine pf_X5_43 C hj0 dX5_copyFrom_146 ?_
          refine v_aload_n C dX5_copyFrom_149 rfl rfl ?_
          refine v_aload_n C dX5_copyFrom_150 rfl rfl ?_
          refine gf_X5_46 C hj1 dX5_copyFrom_151 ?_
          refine pf_X5_46 C hj0 dX5_copyFrom_154 ?_
          refine v_lt h (fun σ14 h => ?_)
          refine v_aload_n C dX5_copyFrom_157 rfl rfl ?_
          refine v_aload_n C dX5_copyFrom_158 rfl rfl ?_
          refine gf_X5_49 C hj1 dX5_copyFrom_159 ?_
          refine pf_X5_49 C hj0 dX5_copyFrom_162 ?_
          refine v_aload_n C dX5_copyFrom_165 rfl rfl ?_
          refine v_aload_n C dX5_copyFrom_166 rfl rfl ?_
          refine gf_X5_52 C hj1 dX5_copyFrom_167 ?_
          refine pf_X5_52 C hj0 dX5_copyFrom_170 ?_
          refine v_lt h (fun σ15 h => ?_)
          exact v_vret C dX5_copyFrom_173 h
        · refine v_aload_n C dX5_copyFrom_107 rfl rfl ?_
          refine gf_X5_33 C hj0 dX5_copyFrom_108 ?_
          refine v_iload_n C dX5_copyFrom_111 rfl rfl ?_
          refine v_aload_n C dX5_copyFrom_112 rfl rfl ?_
          refine gf_X5_33 C hj1 dX5_copyFrom_113 ?_
          refine v_iload_n C dX5_copyFrom_116 rfl rfl ?_
          refine ld_14 C hj1 dX5_copyFrom_117 h (fun h => ?_)
          refine as_14 C hj0 dX5_copyFrom_118 h (fun h => ?_)
          refine v_iinc C dX5_copyFrom_119 rfl (kc_1 _) (lc1 := [some (.ref (ad G 5 j0 0)), some (.ref (ad G 5 j1 0)), some (.int (x12 + 1))]) rfl ?_
          refine v_goto C dX5_copyFrom_122 (tgt := 98) (by decide) ?_
          refine v_mask [true, true, true] (lc' := [some (.ref (ad G 5 j0 0)), some (.ref (ad G 5 j1 0)), some (.int (x12 + 1))]) rfl ?_
          exact hrec10 _ _ h
      · refine v_aload_n C dX5_copyFrom_75 rfl rfl ?_
        refine gf_X5_25 C hj0 dX5_copyFrom_76 ?_
        refine v_iload_n C dX5_copyFrom_79 rfl rfl ?_
        refine lq_13 C hj0 dX5_copyFrom_80 h (fun h hq16 => ?_)
        refine v_aload_n C dX5_copyFrom_81 rfl rfl ?_
        refine gf_X5_25 C hj1 dX5_copyFrom_82 ?_
        refine v_iload_n C dX5_copyFrom_85 rfl rfl ?_
        refine lq_13 C hj1 dX5_copyFrom_86 h (fun h hq17 => ?_)
        refine cVv C 6 j0 x9.toNatClampNeg (av := [.ref (ad G 6 j1 x9.toNatClampNeg)]) si_X6_copyFrom lk_X5_65 (ok6 hj0 hq16) rfl rfl rfl rfl (st := []) rfl (Nat.le_of_ble_eq_true rfl) dX5_copyFrom_87 h (fun _ hc => s_X6_copyFrom (d := d) j0 x9.toNatClampNeg j1 x9.toNatClampNeg hj0 hq16 hj1 hq17 hc) (fun σ19 h => ?_)
        refine v_iinc C dX5_copyFrom_90 rfl (kc_1 _) (lc1 := [some (.ref (ad G 5 j0 0)), some (.ref (ad G 5 j1 0)), some (.int (x9 + 1))]) rfl ?_
        refine v_goto C dX5_copyFrom_93 (tgt := 66) (by decide) ?_
        refine v_mask [true, true, true] (lc' := [some (.ref (ad G 5 j0 0)), some (.ref (ad G 5 j1 0)), some (.int (x9 + 1))]) rfl ?_
        exact hrec7 _ _ h
    · refine v_aload_n C dX5_copyFrom_43 rfl rfl ?_
      refine gf_X5_19 C hj0 dX5_copyFrom_44 ?_
      refine v_iload_n C dX5_copyFrom_47 rfl rfl ?_
      refine lq_12 C hj0 dX5_copyFrom_48 h (fun h hq20 => ?_)
      refine v_aload_n C dX5_copyFrom_49 rfl rfl ?_
      refine gf_X5_19 C hj1 dX5_copyFrom_50 ?_
      refine v_iload_n C dX5_copyFrom_53 rfl rfl ?_
      refine lq_12 C hj1 dX5_copyFrom_54 h (fun h hq21 => ?_)
      refine cVv C 4 j0 x6.toNatClampNeg (av := [.ref (ad G 4 j1 x6.toNatClampNeg)]) si_X4_copyFrom lk_X5_62 (ok4 hj0 hq20) rfl rfl rfl rfl (st := []) rfl (Nat.le_of_ble_eq_true rfl) dX5_copyFrom_55 h (fun _ hc => s_X4_copyFrom (d := d) j0 x6.toNatClampNeg j1 x6.toNatClampNeg hj0 hq20 hj1 hq21 hc) (fun σ23 h => ?_)
      refine v_iinc C dX5_copyFrom_58 rfl (kc_1 _) (lc1 := [some (.ref (ad G 5 j0 0)), some (.ref (ad G 5 j1 0)), some (.int (x6 + 1))]) rfl ?_
      refine v_goto C dX5_copyFrom_61 (tgt := 34) (by decide) ?_
      refine v_mask [true, true, true] (lc' := [some (.ref (ad G 5 j0 0)), some (.ref (ad G 5 j1 0)), some (.int (x6 + 1))]) rfl ?_
      exact hrec4 _ _ h
  · refine v_aload_n C dX5_copyFrom_11 rfl rfl ?_
    refine gf_X5_11 C hj0 dX5_copyFrom_12 ?_
    refine v_iload_n C dX5_copyFrom_15 rfl rfl ?_
    refine lq_11 C hj0 dX5_copyFrom_16 h (fun h hq24 => ?_)
    refine v_aload_n C dX5_copyFrom_17 rfl rfl ?_
    refine gf_X5_11 C hj1 dX5_copyFrom_18 ?_
    refine v_iload_n C dX5_copyFrom_21 rfl rfl ?_
    refine lq_11 C hj1 dX5_copyFrom_22 h (fun h hq25 => ?_)
    refine cVv C 3 j0 x3.toNatClampNeg (av := [.ref (ad G 3 j1 x3.toNatClampNeg)]) si_X3_copyFrom lk_X5_58 (ok3 hj0 hq24) rfl rfl rfl rfl (st := []) rfl (Nat.le_of_ble_eq_true rfl) dX5_copyFrom_23 h (fun _ hc => s_X3_copyFrom (d := d) j0 x3.toNatClampNeg j1 x3.toNatClampNeg hj0 hq24 hj1 hq25 hc) (fun σ27 h => ?_)
    refine v_iinc C dX5_copyFrom_26 rfl (kc_1 _) (lc1 := [some (.ref (ad G 5 j0 0)), some (.ref (ad G 5 j1 0)), some (.int (x3 + 1))]) rfl ?_
    refine v_goto C dX5_copyFrom_29 (tgt := 2) (by decide) ?_
    refine v_mask [true, true, true] (lc' := [some (.ref (ad G 5 j0 0)), some (.ref (ad G 5 j1 0)), some (.int (x3 + 1))]) rfl ?_
    exact hrec1 _ _ h

def dc_X2_record (j1 : Nat) (σ : Sto) : Option Sto :=
  jn (fun (σ1 : Sto) => (if inb (σ1.1 33 0 0) 4 then (bv (dc_X5_copyFrom (σ1.2 (σ1.1 33 0 0).toNatClampNeg) j1 σ1) fun σ5 => some (up σ5 33 0 0 ((σ5.1 33 0 0) + (1 : Int32)))) else none)) (fun k2 => (if (σ.1 33 0 0) < (4 : Int32) then k2 σ else (bv (dc_X2_dropOldest  σ) fun σ7 => k2 σ7)))
set_option maxRecDepth 20000 in
set_option maxHeartbeats 4000000 in
theorem s_X2_record {G : Gm} {d : Nat} (j1 : Nat) (hj1 : j1 < 7) {σ τ : Sto} (h : dc_X2_record j1 σ = some τ) : Cl G (d + 2) m_X2_record [.ref (ad G 2 0 0), .ref (ad G 5 j1 0)] σ none τ := by
  unfold dc_X2_record at h
  refine Cl.mk (cc := cX2_record) (own := RX2) (nL := 2) (ret := none) rfl rfl rfl rfl (by decide +kernel) (catA rfl) (Nat.le_of_ble_eq_true rfl) (fun X C => ?_)
  show V X G 0 0 (QE X G none τ) σ 0 [some (.ref (ad G 2 0 0)), some (.ref (ad G 5 j1 0))] []
  refine v_aload_n C dX2_record_0 rfl rfl ?_
  refine gf_X2_17 C dX2_record_1 ?_
  refine v_aload_n C dX2_record_4 rfl rfl ?_
  refine gf_X2_11 C dX2_record_5 ?_
  refine al_15 C dX2_record_8 ?_
  refine v_join (fun k => ∀ (σ1 : Sto), k σ1 = some τ → V X G 0 0 (QE X G none τ) σ1 16 [some (.ref (ad G 2 0 0)), some (.ref (ad G 5 j1 0))] []) h (fun σ1 h => ?_) (fun k2 hk2 h => ?_)
  · refine v_aload_n C dX2_record_16 rfl rfl ?_
    refine gf_X2_11 C dX2_record_17 ?_
    refine v_aload_n C dX2_record_20 rfl rfl ?_
    refine gf_X2_17 C dX2_record_21 ?_
    refine lq_15 C dX2_record_24 h (fun h hq3 => ?_)
    refine v_aload_n C dX2_record_25 rfl rfl ?_
    refine cVv C 5 (σ1.2 (σ1.1 33 0 0).toNatClampNeg) 0 (av := [.ref (ad G 5 j1 0)]) si_X5_copyFrom lk_X2_25 (ok5 hq3) rfl rfl rfl rfl (st := []) rfl (Nat.le_of_ble_eq_true rfl) dX2_record_26 h (fun _ hc => s_X5_copyFrom (d := d) (σ1.2 (σ1.1 33 0 0).toNatClampNeg) j1 hq3 hj1 hc) (fun σ5 h => ?_)
    refine v_aload_n C dX2_record_29 rfl rfl ?_
    refine v_dup C dX2_record_30 rfl ?_
    refine gf_X2_17 C dX2_record_31 ?_
    refine v_iconst C dX2_record_34 ki_1 ?_
    refine v_iadd C dX2_record_35 ?_
    refine pf_X2_17 C dX2_record_36 ?_
    exact v_vret C dX2_record_39 h
  · refine v_icmp_lt C dX2_record_9 (tgt := 16) (by decide) h (fun h => ?_) (fun h => ?_)
    · refine v_mask [true, true] (lc' := [some (.ref (ad G 2 0 0)), some (.ref (ad G 5 j1 0))]) rfl ?_
      exact hk2 _ h
    · refine v_aload_n C dX2_record_12 rfl rfl ?_
      refine cVv C 2 0 0 (av := []) si_X2_dropOldest lk_X2_22 (ok2) rfl rfl rfl rfl (st := []) rfl (Nat.le_of_ble_eq_true rfl) dX2_record_13 h (fun _ hc => s_X2_dropOldest (d := (d + 1))   hc) (fun σ7 h => ?_)
      refine v_mask [true, true] (lc' := [some (.ref (ad G 2 0 0)), some (.ref (ad G 5 j1 0))]) rfl ?_
      exact hk2 _ h

def dc_X3_open (j0 : Nat) (l0 : Nat) (a1 : Int32) (σ : Sto) : Option Sto :=
  (lt (up (up σ 48 j0 l0 a1) 49 j0 l0 (0 : Int32)) fun σ1 => some (up σ1 50 j0 l0 (0 : Int32)))
set_option maxRecDepth 20000 in
set_option maxHeartbeats 4000000 in
theorem s_X3_open {G : Gm} {d : Nat} (j0 : Nat) (l0 : Nat) (a1 : Int32) (hj0 : j0 < 7) (hl0 : l0 < 8) {σ τ : Sto} (h : dc_X3_open j0 l0 a1 σ = some τ) : Cl G d m_X3_open [.ref (ad G 3 j0 l0), .int a1] σ none τ := by
  unfold dc_X3_open at h
  refine Cl.mk (cc := cX3_open) (own := RX3) (nL := 2) (ret := none) rfl rfl rfl rfl (by decide +kernel) (catA rfl) (Nat.le_of_ble_eq_true rfl) (fun X C => ?_)
  show V X G 0 0 (QE X G none τ) σ 0 [some (.ref (ad G 3 j0 l0)), some (.int a1)] []
  refine v_aload_n C dX3_open_0 rfl rfl ?_
  refine v_iload_n C dX3_open_1 rfl rfl ?_
  refine pf_X3_7 C hj0 hl0 dX3_open_2 ?_
  refine v_aload_n C dX3_open_5 rfl rfl ?_
  refine v_iconst C dX3_open_6 ki_0 ?_
  refine pf_X3_13 C hj0 hl0 dX3_open_7 ?_
  refine v_lt h (fun σ1 h => ?_)
  refine v_aload_n C dX3_open_10 rfl rfl ?_
  refine v_iconst C dX3_open_11 ki_0 ?_
  refine pf_X3_16 C hj0 hl0 dX3_open_12 ?_
  exact v_vret C dX3_open_15 h

def dc_X4_open (j0 : Nat) (l0 : Nat) (a1 : Int32) (a2 : Int32) (a3 : Int32) (σ : Sto) : Option Sto :=
  (lt (up (up σ 64 j0 l0 (0 : Int32)) 65 j0 l0 a1) fun σ1 => (lt (up (up σ1 66 j0 l0 a2) 67 j0 l0 a3) fun σ2 => (lt (up (up σ2 68 j0 l0 (0 : Int32)) 69 j0 l0 (-5 : Int32)) fun σ3 => (lt (up (up σ3 70 j0 l0 (0 : Int32)) 71 j0 l0 (0 : Int32)) fun σ4 => (lt (up (up σ4 72 j0 l0 (0 : Int32)) 73 j0 l0 (0 : Int32)) fun σ5 => some (up σ5 74 j0 l0 (-5 : Int32)))))))
set_option maxRecDepth 20000 in
set_option maxHeartbeats 4000000 in
theorem s_X4_open {G : Gm} {d : Nat} (j0 : Nat) (l0 : Nat) (a1 : Int32) (a2 : Int32) (a3 : Int32) (hj0 : j0 < 7) (hl0 : l0 < 10) {σ τ : Sto} (h : dc_X4_open j0 l0 a1 a2 a3 σ = some τ) : Cl G d m_X4_open [.ref (ad G 4 j0 l0), .int a1, .int a2, .int a3] σ none τ := by
  unfold dc_X4_open at h
  refine Cl.mk (cc := cX4_open) (own := RX4) (nL := 4) (ret := none) rfl rfl rfl rfl (by decide +kernel) (catA rfl) (Nat.le_of_ble_eq_true rfl) (fun X C => ?_)
  show V X G 0 0 (QE X G none τ) σ 0 [some (.ref (ad G 4 j0 l0)), some (.int a1), some (.int a2), some (.int a3)] []
  refine v_aload_n C dX4_open_0 rfl rfl ?_
  refine v_iconst C dX4_open_1 ki_0 ?_
  refine pf_X4_9 C hj0 hl0 dX4_open_2 ?_
  refine v_aload_n C dX4_open_5 rfl rfl ?_
  refine v_iload_n C dX4_open_6 rfl rfl ?_
  refine pf_X4_15 C hj0 hl0 dX4_open_7 ?_
  refine v_lt h (fun σ1 h => ?_)
  refine v_aload_n C dX4_open_10 rfl rfl ?_
  refine v_iload_n C dX4_open_11 rfl rfl ?_
  refine pf_X4_18 C hj0 hl0 dX4_open_12 ?_
  refine v_aload_n C dX4_open_15 rfl rfl ?_
  refine v_iload_n C dX4_open_16 rfl rfl ?_
  refine pf_X4_21 C hj0 hl0 dX4_open_17 ?_
  refine v_lt h (fun σ2 h => ?_)
  refine v_aload_n C dX4_open_20 rfl rfl ?_
  refine v_iconst C dX4_open_21 ki_0 ?_
  refine pf_X4_24 C hj0 hl0 dX4_open_22 ?_
  refine v_aload_n C dX4_open_25 rfl rfl ?_
  refine v_bipush C dX4_open_26 kb_m5 ?_
  refine pf_X4_27 C hj0 hl0 dX4_open_28 ?_
  refine v_lt h (fun σ3 h => ?_)
  refine v_aload_n C dX4_open_31 rfl rfl ?_
  refine v_iconst C dX4_open_32 ki_0 ?_
  refine pf_X4_30 C hj0 hl0 dX4_open_33 ?_
  refine v_aload_n C dX4_open_36 rfl rfl ?_
  refine v_iconst C dX4_open_37 ki_0 ?_
  refine pf_X4_33 C hj0 hl0 dX4_open_38 ?_
  refine v_lt h (fun σ4 h => ?_)
  refine v_aload_n C dX4_open_41 rfl rfl ?_
  refine v_iconst C dX4_open_42 ki_0 ?_
  refine pf_X4_36 C hj0 hl0 dX4_open_43 ?_
  refine v_aload_n C dX4_open_46 rfl rfl ?_
  refine v_iconst C dX4_open_47 ki_0 ?_
  refine pf_X4_39 C hj0 hl0 dX4_open_48 ?_
  refine v_lt h (fun σ5 h => ?_)
  refine v_aload_n C dX4_open_51 rfl rfl ?_
  refine v_bipush C dX4_open_52 kb_m5 ?_
  refine pf_X4_42 C hj0 hl0 dX4_open_54 ?_
  exact v_vret C dX4_open_57 h

def dc_X9_dividedUp (a0 : Int32) (a1 : Int32) (σ : Sto) : Option (Int32 × Sto) :=
  (if (1 : Int32) ≤ a1 then (if ¬ a1 = 0 then some (((a0 + a1) - (1 : Int32)) / a1, σ) else none) else some (a0, σ))
set_option maxRecDepth 20000 in
set_option maxHeartbeats 4000000 in
theorem s_X9_dividedUp {G : Gm} {d : Nat} (a0 : Int32) (a1 : Int32) {σ τ : Sto} {r : Int32} (h : dc_X9_dividedUp a0 a1 σ = some (r, τ)) : Cl G d m_X9_dividedUp [.int a0, .int a1] σ (some (.int r)) τ := by
  unfold dc_X9_dividedUp at h
  refine Cl.mk (cc := cX9_dividedUp) (own := RX9) (nL := 2) (ret := (some .int)) rfl rfl rfl rfl (by decide +kernel) (catA rfl) (Nat.le_of_ble_eq_true rfl) (fun X C => ?_)
  show V X G 0 0 (QE X G (some (.int r)) τ) σ 0 [some (.int a0), some (.int a1)] []
  refine v_iload_n C dX9_dividedUp_0 rfl rfl ?_
  refine v_iconst C dX9_dividedUp_1 ki_1 ?_
  refine v_icmp_ge C dX9_dividedUp_2 (tgt := 9) (by decide) h (fun h => ?_) (fun h => ?_)
  · refine v_iload_n C dX9_dividedUp_9 rfl rfl ?_
    refine v_iload_n C dX9_dividedUp_10 rfl rfl ?_
    refine v_iadd C dX9_dividedUp_11 ?_
    refine v_iconst C dX9_dividedUp_12 ki_1 ?_
    refine v_isub C dX9_dividedUp_13 ?_
    refine v_iload_n C dX9_dividedUp_14 rfl rfl ?_
    refine v_idiv C dX9_dividedUp_15 (if_some h).1 ?_
    have h := (if_some h).2
    exact v_iret C dX9_dividedUp_16 h
  · refine v_iload_n C dX9_dividedUp_5 rfl rfl ?_
    refine v_goto C dX9_dividedUp_6 (tgt := 16) (by decide) ?_
    exact v_iret C dX9_dividedUp_16 h

def dc_X4_start (j0 : Nat) (l0 : Nat) (σ : Sto) : Option Sto :=
  (lt (up (up σ 64 j0 l0 (1 : Int32)) 68 j0 l0 ((up σ 64 j0 l0 (1 : Int32)).1 65 j0 l0)) fun σ1 => (bd (dc_X9_dividedUp (σ1.1 65 j0 l0) (σ1.1 67 j0 l0) σ1) fun r2 σ3 => some (up σ3 69 j0 l0 r2)))
set_option maxRecDepth 20000 in
set_option maxHeartbeats 4000000 in
theorem s_X4_start {G : Gm} {d : Nat} (j0 : Nat) (l0 : Nat) (hj0 : j0 < 7) (hl0 : l0 < 10) {σ τ : Sto} (h : dc_X4_start j0 l0 σ = some τ) : Cl G (d + 1) m_X4_start [.ref (ad G 4 j0 l0)] σ none τ := by
  unfold dc_X4_start at h
  refine Cl.mk (cc := cX4_start) (own := RX4) (nL := 1) (ret := none) rfl rfl rfl rfl (by decide +kernel) (catA rfl) (Nat.le_of_ble_eq_true rfl) (fun X C => ?_)
  show V X G 0 0 (QE X G none τ) σ 0 [some (.ref (ad G 4 j0 l0))] []
  refine v_aload_n C dX4_start_0 rfl rfl ?_
  refine v_iconst C dX4_start_1 ki_1 ?_
  refine pf_X4_9 C hj0 hl0 dX4_start_2 ?_
  refine v_aload_n C dX4_start_5 rfl rfl ?_
  refine v_aload_n C dX4_start_6 rfl rfl ?_
  refine gf_X4_15 C hj0 hl0 dX4_start_7 ?_
  refine pf_X4_24 C hj0 hl0 dX4_start_10 ?_
  refine v_lt h (fun σ1 h => ?_)
  refine v_aload_n C dX4_start_13 rfl rfl ?_
  refine v_aload_n C dX4_start_14 rfl rfl ?_
  refine gf_X4_15 C hj0 hl0 dX4_start_15 ?_
  refine v_aload_n C dX4_start_18 rfl rfl ?_
  refine gf_X4_21 C hj0 hl0 dX4_start_19 ?_
  refine cSNi C (av := [.int (σ1.1 65 j0 l0), .int (σ1.1 67 j0 l0)]) si_X9_dividedUp lk_X4_45 rfl rfl (st := [.ref (ad G 4 j0 l0)]) rfl (Nat.le_of_ble_eq_true rfl) dX4_start_22 h (fun _ _ hc => s_X9_dividedUp (d := d) (σ1.1 65 j0 l0) (σ1.1 67 j0 l0)  hc) (fun r2 σ3 h => ?_)
  refine pf_X4_27 C hj0 hl0 dX4_start_25 ?_
  exact v_vret C dX4_start_28 h

def dc_X4_end (j0 : Nat) (l0 : Nat) (a1 : Int32) (σ : Sto) : Option Sto :=
  (lt (up (up σ 64 j0 l0 a1) 68 j0 l0 (0 : Int32)) fun σ1 => (lt (up (up σ1 70 j0 l0 (0 : Int32)) 71 j0 l0 (0 : Int32)) fun σ2 => (lt (up (up σ2 72 j0 l0 (0 : Int32)) 74 j0 l0 (-5 : Int32)) fun σ3 => some σ3)))
set_option maxRecDepth 20000 in
set_option maxHeartbeats 4000000 in
theorem s_X4_end {G : Gm} {d : Nat} (j0 : Nat) (l0 : Nat) (a1 : Int32) (hj0 : j0 < 7) (hl0 : l0 < 10) {σ τ : Sto} (h : dc_X4_end j0 l0 a1 σ = some τ) : Cl G d m_X4_end [.ref (ad G 4 j0 l0), .int a1] σ none τ := by
  unfold dc_X4_end at h
  refine Cl.mk (cc := cX4_end) (own := RX4) (nL := 2) (ret := none) rfl rfl rfl rfl (by decide +kernel) (catA rfl) (Nat.le_of_ble_eq_true rfl) (fun X C => ?_)
  show V X G 0 0 (QE X G none τ) σ 0 [some (.ref (ad G 4 j0 l0)), some (.int a1)] []
  refine v_aload_n C dX4_end_0 rfl rfl ?_
  refine v_iload_n C dX4_end_1 rfl rfl ?_
  refine pf_X4_9 C hj0 hl0 dX4_end_2 ?_
  refine v_aload_n C dX4_end_5 rfl rfl ?_
  refine v_iconst C dX4_end_6 ki_0 ?_
  refine pf_X4_24 C hj0 hl0 dX4_end_7 ?_
  refine v_lt h (fun σ1 h => ?_)
  refine v_aload_n C dX4_end_10 rfl rfl ?_
  refine v_iconst C dX4_end_11 ki_0 ?_
  refine pf_X4_30 C hj0 hl0 dX4_end_12 ?_
  refine v_aload_n C dX4_end_15 rfl rfl ?_
  refine v_iconst C dX4_end_16 ki_0 ?_
  refine pf_X4_33 C hj0 hl0 dX4_end_17 ?_
  refine v_lt h (fun σ2 h => ?_)
  refine v_aload_n C dX4_end_20 rfl rfl ?_
  refine v_iconst C dX4_end_21 ki_0 ?_
  refine pf_X4_36 C hj0 hl0 dX4_end_22 ?_
  refine v_aload_n C dX4_end_25 rfl rfl ?_
  refine v_bipush C dX4_end_26 kb_m5 ?_
  refine pf_X4_42 C hj0 hl0 dX4_end_28 ?_
  refine v_lt h (fun σ3 h => ?_)
  exact v_vret C dX4_end_31 h

def dc_X4_passMonth (j0 : Nat) (l0 : Nat) (σ : Sto) : Option Sto :=
  jn (fun (σ1 : Sto) => jn (fun (v3 : Int32) => (lt (up (up σ1 72 j0 l0 v3) 70 j0 l0 (((up σ1 72 j0 l0 v3).1 70 j0 l0) + ((((up σ1 72 j0 l0 v3).1 68 j0 l0) * ((up σ1 72 j0 l0 v3).1 66 j0 l0)) / (1000 : Int32)))) fun σ5 => some (up σ5 71 j0 l0 (jmin (σ5.1 68 j0 l0) ((σ5.1 71 j0 l0) + (σ5.1 69 j0 l0)))))) (fun k4 => (if 0 < (σ1.1 70 j0 l0) then k4 ((σ1.1 72 j0 l0) + (1 : Int32)) else (if (σ1.1 71 j0 l0) ≤ 0 then k4 (0 : Int32) else k4 ((σ1.1 72 j0 l0) + (1 : Int32)))))) (fun k2 => (if (σ.1 74 j0 l0) = (-5 : Int32) then k2 σ else (lt (up (up σ 73 j0 l0 (σ.1 74 j0 l0)) 74 j0 l0 (-5 : Int32)) fun σ6 => k2 σ6)))
set_option maxRecDepth 20000 in
set_option maxHeartbeats 4000000 in
theorem s_X4_passMonth {G : Gm} {d : Nat} (j0 : Nat) (l0 : Nat) (hj0 : j0 < 7) (hl0 : l0 < 10) {σ τ : Sto} (h : dc_X4_passMonth j0 l0 σ = some τ) : Cl G (d + 1) m_X4_passMonth [.ref (ad G 4 j0 l0)] σ none τ := by
  unfold dc_X4_passMonth at h
  refine Cl.mk (cc := cX4_passMonth) (own := RX4) (nL := 1) (ret := none) rfl rfl rfl rfl (by decide +kernel) (catA rfl) (Nat.le_of_ble_eq_true rfl) (fun X C => ?_)
  show V X G 0 0 (QE X G none τ) σ 0 [some (.ref (ad G 4 j0 l0))] []
  refine v_aload_n C dX4_passMonth_0 rfl rfl ?_
  refine gf_X4_42 C hj0 hl0 dX4_passMonth_1 ?_
  refine v_bipush C dX4_passMonth_4 kb_m5 ?_
  refine v_join (fun k => ∀ (σ1 : Sto), k σ1 = some τ → V X G 0 0 (QE X G none τ) σ1 23 [some (.ref (ad G 4 j0 l0))] []) h (fun σ1 h => ?_) (fun k2 hk2 h => ?_)
  · refine v_aload_n C dX4_passMonth_23 rfl rfl ?_
    refine v_aload_n C dX4_passMonth_24 rfl rfl ?_
    refine gf_X4_30 C hj0 hl0 dX4_passMonth_25 ?_
    refine v_join (fun k => ∀ (v3 : Int32), k v3 = some τ → V X G 0 0 (QE X G none τ) σ1 48 [some (.ref (ad G 4 j0 l0))] [.int v3, .ref (ad G 4 j0 l0)]) h (fun v3 h => ?_) (fun k4 hk4 h => ?_)
    · refine pf_X4_36 C hj0 hl0 dX4_passMonth_48 ?_
      refine v_aload_n C dX4_passMonth_51 rfl rfl ?_
      refine v_dup C dX4_passMonth_52 rfl ?_
      refine gf_X4_30 C hj0 hl0 dX4_passMonth_53 ?_
      refine v_aload_n C dX4_passMonth_56 rfl rfl ?_
      refine gf_X4_24 C hj0 hl0 dX4_passMonth_57 ?_
      refine v_aload_n C dX4_passMonth_60 rfl rfl ?_
      refine gf_X4_18 C hj0 hl0 dX4_passMonth_61 ?_
      refine v_imul C dX4_passMonth_64 ?_
      refine v_sipush C dX4_passMonth_65 ks_1000 ?_
      refine v_idiv C dX4_passMonth_68 (by decide) ?_
      refine v_iadd C dX4_passMonth_69 ?_
      refine pf_X4_30 C hj0 hl0 dX4_passMonth_70 ?_
      refine v_lt h (fun σ5 h => ?_)
      refine v_aload_n C dX4_passMonth_73 rfl rfl ?_
      refine v_aload_n C dX4_passMonth_74 rfl rfl ?_
      refine gf_X4_24 C hj0 hl0 dX4_passMonth_75 ?_
      refine v_aload_n C dX4_passMonth_78 rfl rfl ?_
      refine gf_X4_33 C hj0 hl0 dX4_passMonth_79 ?_
      refine v_aload_n C dX4_passMonth_82 rfl rfl ?_
      refine gf_X4_27 C hj0 hl0 dX4_passMonth_83 ?_
      refine v_iadd C dX4_passMonth_86 ?_
      refine v_mmin C lk_X4_49 mm_min1 mm_2 mm_min3 rfl (Nat.le_of_ble_eq_true rfl) dX4_passMonth_87 ?_
      refine pf_X4_33 C hj0 hl0 dX4_passMonth_90 ?_
      exact v_vret C dX4_passMonth_93 h
    · refine v_if_gt C dX4_passMonth_28 (tgt := 38) (by decide) h (fun h => ?_) (fun h => ?_)
      · refine v_aload_n C dX4_passMonth_38 rfl rfl ?_
        refine gf_X4_36 C hj0 hl0 dX4_passMonth_39 ?_
        refine v_iconst C dX4_passMonth_42 ki_1 ?_
        refine v_iadd C dX4_passMonth_43 ?_
        refine v_goto C dX4_passMonth_44 (tgt := 48) (by decide) ?_
        refine v_mask [true] (lc' := [some (.ref (ad G 4 j0 l0))]) rfl ?_
        exact hk4 _ h
      · refine v_aload_n C dX4_passMonth_31 rfl rfl ?_
        refine gf_X4_33 C hj0 hl0 dX4_passMonth_32 ?_
        refine v_if_le C dX4_passMonth_35 (tgt := 47) (by decide) h (fun h => ?_) (fun h => ?_)
        · refine v_iconst C dX4_passMonth_47 ki_0 ?_
          refine v_mask [true] (lc' := [some (.ref (ad G 4 j0 l0))]) rfl ?_
          exact hk4 _ h
        · refine v_aload_n C dX4_passMonth_38 rfl rfl ?_
          refine gf_X4_36 C hj0 hl0 dX4_passMonth_39 ?_
          refine v_iconst C dX4_passMonth_42 ki_1 ?_
          refine v_iadd C dX4_passMonth_43 ?_
          refine v_goto C dX4_passMonth_44 (tgt := 48) (by decide) ?_
          refine v_mask [true] (lc' := [some (.ref (ad G 4 j0 l0))]) rfl ?_
          exact hk4 _ h
  · refine v_icmp_eq C dX4_passMonth_6 (tgt := 23) (by decide) h (fun h => ?_) (fun h => ?_)
    · refine v_mask [true] (lc' := [some (.ref (ad G 4 j0 l0))]) rfl ?_
      exact hk2 _ h
    · refine v_aload_n C dX4_passMonth_9 rfl rfl ?_
      refine v_aload_n C dX4_passMonth_10 rfl rfl ?_
      refine gf_X4_42 C hj0 hl0 dX4_passMonth_11 ?_
      refine pf_X4_39 C hj0 hl0 dX4_passMonth_14 ?_
      refine v_aload_n C dX4_passMonth_17 rfl rfl ?_
      refine v_bipush C dX4_passMonth_18 kb_m5 ?_
      refine pf_X4_42 C hj0 hl0 dX4_passMonth_20 ?_
      refine v_lt h (fun σ6 h => ?_)
      refine v_mask [true] (lc' := [some (.ref (ad G 4 j0 l0))]) rfl ?_
      exact hk2 _ h

def dc_X4_takePayment (j0 : Nat) (l0 : Nat) (a1 : Int32) (a2 : Int32) (σ : Sto) : Option Sto :=
  (lt (up (up σ 70 j0 l0 ((σ.1 70 j0 l0) - a1)) 68 j0 l0 (((up σ 70 j0 l0 ((σ.1 70 j0 l0) - a1)).1 68 j0 l0) - a2)) fun σ1 => jn (fun (σ2 : Sto) => (if (σ2.1 70 j0 l0) = 0 then (if (σ2.1 68 j0 l0) = 0 then (bv (dc_X4_end j0 l0 (2 : Int32) σ2) fun σ5 => some σ5) else some σ2) else some σ2)) (fun k3 => (if ((up σ1 71 j0 l0 (jmax (0 : Int32) ((σ1.1 71 j0 l0) - a2))).1 70 j0 l0) = 0 then (if ((up σ1 71 j0 l0 (jmax (0 : Int32) ((σ1.1 71 j0 l0) - a2))).1 71 j0 l0) = 0 then (lt (up (up σ1 71 j0 l0 (jmax (0 : Int32) ((σ1.1 71 j0 l0) - a2))) 72 j0 l0 (0 : Int32)) fun σ6 => k3 σ6) else k3 (up σ1 71 j0 l0 (jmax (0 : Int32) ((σ1.1 71 j0 l0) - a2)))) else k3 (up σ1 71 j0 l0 (jmax (0 : Int32) ((σ1.1 71 j0 l0) - a2))))))
set_option maxRecDepth 20000 in
set_option maxHeartbeats 4000000 in
theorem s_X4_takePayment {G : Gm} {d : Nat} (j0 : Nat) (l0 : Nat) (a1 : Int32) (a2 : Int32) (hj0 : j0 < 7) (hl0 : l0 < 10) {σ τ : Sto} (h : dc_X4_takePayment j0 l0 a1 a2 σ = some τ) : Cl G (d + 1) m_X4_takePayment [.ref (ad G 4 j0 l0), .int a1, .int a2] σ none τ := by
  unfold dc_X4_takePayment at h
  refine Cl.mk (cc := cX4_takePayment) (own := RX4) (nL := 3) (ret := none) rfl rfl rfl rfl (by decide +kernel) (catA rfl) (Nat.le_of_ble_eq_true rfl) (fun X C => ?_)
  show V X G 0 0 (QE X G none τ) σ 0 [some (.ref (ad G 4 j0 l0)), some (.int a1), some (.int a2)] []
  refine v_aload_n C dX4_takePayment_0 rfl rfl ?_
  refine v_dup C dX4_takePayment_1 rfl ?_
  refine gf_X4_30 C hj0 hl0 dX4_takePayment_2 ?_
  refine v_iload_n C dX4_takePayment_5 rfl rfl ?_
  refine v_isub C dX4_takePayment_6 ?_
  refine pf_X4_30 C hj0 hl0 dX4_takePayment_7 ?_
  refine v_aload_n C dX4_takePayment_10 rfl rfl ?_
  refine v_dup C dX4_takePayment_11 rfl ?_
  refine gf_X4_24 C hj0 hl0 dX4_takePayment_12 ?_
  refine v_iload_n C dX4_takePayment_15 rfl rfl ?_
  refine v_isub C dX4_takePayment_16 ?_
  refine pf_X4_24 C hj0 hl0 dX4_takePayment_17 ?_
  refine v_lt h (fun σ1 h => ?_)
  refine v_aload_n C dX4_takePayment_20 rfl rfl ?_
  refine v_iconst C dX4_takePayment_21 ki_0 ?_
  refine v_aload_n C dX4_takePayment_22 rfl rfl ?_
  refine gf_X4_33 C hj0 hl0 dX4_takePayment_23 ?_
  refine v_iload_n C dX4_takePayment_26 rfl rfl ?_
  refine v_isub C dX4_takePayment_27 ?_
  refine v_mmax C lk_X4_54 mm_max1 mm_2 mm_max3 rfl (Nat.le_of_ble_eq_true rfl) dX4_takePayment_28 ?_
  refine pf_X4_33 C hj0 hl0 dX4_takePayment_31 ?_
  refine v_aload_n C dX4_takePayment_34 rfl rfl ?_
  refine gf_X4_30 C hj0 hl0 dX4_takePayment_35 ?_
  refine v_join (fun k => ∀ (σ2 : Sto), k σ2 = some τ → V X G 0 0 (QE X G none τ) σ2 53 [some (.ref (ad G 4 j0 l0)), some (.int a1), some (.int a2)] []) h (fun σ2 h => ?_) (fun k3 hk3 h => ?_)
  · refine v_aload_n C dX4_takePayment_53 rfl rfl ?_
    refine gf_X4_30 C hj0 hl0 dX4_takePayment_54 ?_
    refine v_if_ne C dX4_takePayment_57 (tgt := 72) (by decide) h (fun h => ?_) (fun h => ?_)
    · exact v_vret C dX4_takePayment_72 h
    · refine v_aload_n C dX4_takePayment_60 rfl rfl ?_
      refine gf_X4_24 C hj0 hl0 dX4_takePayment_61 ?_
      refine v_if_ne C dX4_takePayment_64 (tgt := 72) (by decide) h (fun h => ?_) (fun h => ?_)
      · exact v_vret C dX4_takePayment_72 h
      · refine v_aload_n C dX4_takePayment_67 rfl rfl ?_
        refine v_iconst C dX4_takePayment_68 ki_2 ?_
        refine cVv C 4 j0 l0 (av := [.int (2 : Int32)]) si_X4_end lk_X4_57 (ok4 hj0 hl0) rfl rfl rfl rfl (st := []) rfl (Nat.le_of_ble_eq_true rfl) dX4_takePayment_69 h (fun _ hc => s_X4_end (d := d) j0 l0 (2 : Int32) hj0 hl0 hc) (fun σ5 h => ?_)
        exact v_vret C dX4_takePayment_72 h
  · refine v_if_ne C dX4_takePayment_38 (tgt := 53) (by decide) h (fun h => ?_) (fun h => ?_)
    · refine v_mask [true, true, true] (lc' := [some (.ref (ad G 4 j0 l0)), some (.int a1), some (.int a2)]) rfl ?_
      exact hk3 _ h
    · refine v_aload_n C dX4_takePayment_41 rfl rfl ?_
      refine gf_X4_33 C hj0 hl0 dX4_takePayment_42 ?_
      refine v_if_ne C dX4_takePayment_45 (tgt := 53) (by decide) h (fun h => ?_) (fun h => ?_)
      · refine v_mask [true, true, true] (lc' := [some (.ref (ad G 4 j0 l0)), some (.int a1), some (.int a2)]) rfl ?_
        exact hk3 _ h
      · refine v_aload_n C dX4_takePayment_48 rfl rfl ?_
        refine v_iconst C dX4_takePayment_49 ki_0 ?_
        refine pf_X4_36 C hj0 hl0 dX4_takePayment_50 ?_
        refine v_lt h (fun σ6 h => ?_)
        refine v_mask [true, true, true] (lc' := [some (.ref (ad G 4 j0 l0)), some (.int a1), some (.int a2)]) rfl ?_
        exact hk3 _ h

def dc_X5_hasInvestor (j0 : Nat) (a1 : Int32) (σ : Sto) : Option (Int32 × Sto) :=
  (if a1 < 0 then some ((0 : Int32), σ) else (if (σ.1 84 j0 0) ≤ a1 then some ((0 : Int32), σ) else some ((1 : Int32), σ)))
set_option maxRecDepth 20000 in
set_option maxHeartbeats 4000000 in
theorem s_X5_hasInvestor {G : Gm} {d : Nat} (j0 : Nat) (a1 : Int32) (hj0 : j0 < 7) {σ τ : Sto} {r : Int32} (h : dc_X5_hasInvestor j0 a1 σ = some (r, τ)) : Cl G d m_X5_hasInvestor [.ref (ad G 5 j0 0), .int a1] σ (some (.int r)) τ := by
  unfold dc_X5_hasInvestor at h
  refine Cl.mk (cc := cX5_hasInvestor) (own := RX5) (nL := 2) (ret := (some .boolean)) rfl rfl rfl rfl (by decide +kernel) (catA rfl) (Nat.le_of_ble_eq_true rfl) (fun X C => ?_)
  show V X G 0 0 (QE X G (some (.int r)) τ) σ 0 [some (.ref (ad G 5 j0 0)), some (.int a1)] []
  refine v_iload_n C dX5_hasInvestor_0 rfl rfl ?_
  refine v_if_lt C dX5_hasInvestor_1 (tgt := 16) (by decide) h (fun h => ?_) (fun h => ?_)
  · refine v_iconst C dX5_hasInvestor_16 ki_0 ?_
    exact v_zretc C dX5_hasInvestor_17 (nar01 (Or.inl rfl)) h
  · refine v_iload_n C dX5_hasInvestor_4 rfl rfl ?_
    refine v_aload_n C dX5_hasInvestor_5 rfl rfl ?_
    refine gf_X5_36 C hj0 dX5_hasInvestor_6 ?_
    refine v_icmp_ge C dX5_hasInvestor_9 (tgt := 16) (by decide) h (fun h => ?_) (fun h => ?_)
    · refine v_iconst C dX5_hasInvestor_16 ki_0 ?_
      exact v_zretc C dX5_hasInvestor_17 (nar01 (Or.inl rfl)) h
    · refine v_iconst C dX5_hasInvestor_12 ki_1 ?_
      refine v_goto C dX5_hasInvestor_13 (tgt := 17) (by decide) ?_
      exact v_zretc C dX5_hasInvestor_17 (nar01 (Or.inr rfl)) h

def dc_X5_hasLoan (j0 : Nat) (a1 : Int32) (σ : Sto) : Option (Int32 × Sto) :=
  (if a1 < 0 then some ((0 : Int32), σ) else (if (σ.1 85 j0 0) ≤ a1 then some ((0 : Int32), σ) else some ((1 : Int32), σ)))
set_option maxRecDepth 20000 in
set_option maxHeartbeats 4000000 in
theorem s_X5_hasLoan {G : Gm} {d : Nat} (j0 : Nat) (a1 : Int32) (hj0 : j0 < 7) {σ τ : Sto} {r : Int32} (h : dc_X5_hasLoan j0 a1 σ = some (r, τ)) : Cl G d m_X5_hasLoan [.ref (ad G 5 j0 0), .int a1] σ (some (.int r)) τ := by
  unfold dc_X5_hasLoan at h
  refine Cl.mk (cc := cX5_hasLoan) (own := RX5) (nL := 2) (ret := (some .boolean)) rfl rfl rfl rfl (by decide +kernel) (catA rfl) (Nat.le_of_ble_eq_true rfl) (fun X C => ?_)
  show V X G 0 0 (QE X G (some (.int r)) τ) σ 0 [some (.ref (ad G 5 j0 0)), some (.int a1)] []
  refine v_iload_n C dX5_hasLoan_0 rfl rfl ?_
  refine v_if_lt C dX5_hasLoan_1 (tgt := 16) (by decide) h (fun h => ?_) (fun h => ?_)
  · refine v_iconst C dX5_hasLoan_16 ki_0 ?_
    exact v_zretc C dX5_hasLoan_17 (nar01 (Or.inl rfl)) h
  · refine v_iload_n C dX5_hasLoan_4 rfl rfl ?_
    refine v_aload_n C dX5_hasLoan_5 rfl rfl ?_
    refine gf_X5_40 C hj0 dX5_hasLoan_6 ?_
    refine v_icmp_ge C dX5_hasLoan_9 (tgt := 16) (by decide) h (fun h => ?_) (fun h => ?_)
    · refine v_iconst C dX5_hasLoan_16 ki_0 ?_
      exact v_zretc C dX5_hasLoan_17 (nar01 (Or.inl rfl)) h
    · refine v_iconst C dX5_hasLoan_12 ki_1 ?_
      refine v_goto C dX5_hasLoan_13 (tgt := 17) (by decide) ?_
      exact v_zretc C dX5_hasLoan_17 (nar01 (Or.inr rfl)) h

def dc_X5_hasNote (j0 : Nat) (a1 : Int32) (σ : Sto) : Option (Int32 × Sto) :=
  (if a1 < 0 then some ((0 : Int32), σ) else (if (σ.1 86 j0 0) ≤ a1 then some ((0 : Int32), σ) else some ((1 : Int32), σ)))
set_option maxRecDepth 20000 in
set_option maxHeartbeats 4000000 in
theorem s_X5_hasNote {G : Gm} {d : Nat} (j0 : Nat) (a1 : Int32) (hj0 : j0 < 7) {σ τ : Sto} {r : Int32} (h : dc_X5_hasNote j0 a1 σ = some (r, τ)) : Cl G d m_X5_hasNote [.ref (ad G 5 j0 0), .int a1] σ (some (.int r)) τ := by
  unfold dc_X5_hasNote at h
  refine Cl.mk (cc := cX5_hasNote) (own := RX5) (nL := 2) (ret := (some .boolean)) rfl rfl rfl rfl (by decide +kernel) (catA rfl) (Nat.le_of_ble_eq_true rfl) (fun X C => ?_)
  show V X G 0 0 (QE X G (some (.int r)) τ) σ 0 [some (.ref (ad G 5 j0 0)), some (.int a1)] []
  refine v_iload_n C dX5_hasNote_0 rfl rfl ?_
  refine v_if_lt C dX5_hasNote_1 (tgt := 16) (by decide) h (fun h => ?_) (fun h => ?_)
  · refine v_iconst C dX5_hasNote_16 ki_0 ?_
    exact v_zretc C dX5_hasNote_17 (nar01 (Or.inl rfl)) h
  · refine v_iload_n C dX5_hasNote_4 rfl rfl ?_
    refine v_aload_n C dX5_hasNote_5 rfl rfl ?_
    refine gf_X5_43 C hj0 dX5_hasNote_6 ?_
    refine v_icmp_ge C dX5_hasNote_9 (tgt := 16) (by decide) h (fun h => ?_) (fun h => ?_)
    · refine v_iconst C dX5_hasNote_16 ki_0 ?_
      exact v_zretc C dX5_hasNote_17 (nar01 (Or.inl rfl)) h
    · refine v_iconst C dX5_hasNote_12 ki_1 ?_
      refine v_goto C dX5_hasNote_13 (tgt := 17) (by decide) ?_
      exact v_zretc C dX5_hasNote_17 (nar01 (Or.inr rfl)) h

def dc_X5_runs (j0 : Nat) (a1 : Int32) (σ : Sto) : Option (Int32 × Sto) :=
  (bd (dc_X5_hasLoan j0 a1 σ) fun r1 σ2 => (if r1 = 0 then some ((0 : Int32), σ2) else (if inb a1 10 then (if (σ2.1 64 j0 a1.toNatClampNeg) = (1 : Int32) then some ((1 : Int32), σ2) else some ((0 : Int32), σ2)) else none)))
set_option maxRecDepth 20000 in
set_option maxHeartbeats 4000000 in
theorem s_X5_runs {G : Gm} {d : Nat} (j0 : Nat) (a1 : Int32) (hj0 : j0 < 7) {σ τ : Sto} {r : Int32} (h : dc_X5_runs j0 a1 σ = some (r, τ)) : Cl G (d + 1) m_X5_runs [.ref (ad G 5 j0 0), .int a1] σ (some (.int r)) τ := by
  unfold dc_X5_runs at h
  refine Cl.mk (cc := cX5_runs) (own := RX5) (nL := 2) (ret := (some .boolean)) rfl rfl rfl rfl (by decide +kernel) (catA rfl) (Nat.le_of_ble_eq_true rfl) (fun X C => ?_)
  show V X G 0 0 (QE X G (some (.int r)) τ) σ 0 [some (.ref (ad G 5 j0 0)), some (.int a1)] []
  refine v_aload_n C dX5_runs_0 rfl rfl ?_
  refine v_iload_n C dX5_runs_1 rfl rfl ?_
  refine cVi C 5 j0 0 (av := [.int a1]) si_X5_hasLoan lk_X5_68 (ok5 hj0) rfl rfl rfl rfl (st := []) rfl (Nat.le_of_ble_eq_true rfl) dX5_runs_2 h (fun _ _ hc => s_X5_hasLoan (d := d) j0 a1 hj0 hc) (fun r1 σ2 h => ?_)
  refine v_if_eq C dX5_runs_5 (tgt := 25) (by decide) h (fun h => ?_) (fun h => ?_)
  · refine v_iconst C dX5_runs_25 ki_0 ?_
    exact v_zretc C dX5_runs_26 (nar01 (Or.inl rfl)) h
  · refine v_aload_n C dX5_runs_8 rfl rfl ?_
    refine gf_X5_19 C hj0 dX5_runs_9 ?_
    refine v_iload_n C dX5_runs_12 rfl rfl ?_
    refine lq_12 C hj0 dX5_runs_13 h (fun h hq3 => ?_)
    refine gf_X5_72 C hj0 hq3 dX5_runs_14 ?_
    refine v_iconst C dX5_runs_17 ki_1 ?_
    refine v_icmp_ne C dX5_runs_18 (tgt := 25) (by decide) h (fun h => ?_) (fun h => ?_)
    · refine v_iconst C dX5_runs_25 ki_0 ?_
      exact v_zretc C dX5_runs_26 (nar01 (Or.inl rfl)) h
    · refine v_iconst C dX5_runs_21 ki_1 ?_
      refine v_goto C dX5_runs_22 (tgt := 26) (by decide) ?_
      exact v_zretc C dX5_runs_26 (nar01 (Or.inr rfl)) h

def dc_X5_cashOf (j0 : Nat) (a1 : Int32) (σ : Sto) : Option (Int32 × Sto) :=
  (bd (dc_X5_hasInvestor j0 a1 σ) fun r1 σ2 => (if r1 = 0 then some ((0 : Int32), σ2) else (if inb a1 8 then some (σ2.1 48 j0 a1.toNatClampNeg, σ2) else none)))
set_option maxRecDepth 20000 in
set_option maxHeartbeats 4000000 in
theorem s_X5_cashOf {G : Gm} {d : Nat} (j0 : Nat) (a1 : Int32) (hj0 : j0 < 7) {σ τ : Sto} {r : Int32} (h : dc_X5_cashOf j0 a1 σ = some (r, τ)) : Cl G (d + 1) m_X5_cashOf [.ref (ad G 5 j0 0), .int a1] σ (some (.int r)) τ := by
  unfold dc_X5_cashOf at h
  refine Cl.mk (cc := cX5_cashOf) (own := RX5) (nL := 2) (ret := (some .int)) rfl rfl rfl rfl (by decide +kernel) (catA rfl) (Nat.le_of_ble_eq_true rfl) (fun X C => ?_)
  show V X G 0 0 (QE X G (some (.int r)) τ) σ 0 [some (.ref (ad G 5 j0 0)), some (.int a1)] []
  refine v_aload_n C dX5_cashOf_0 rfl rfl ?_
  refine v_iload_n C dX5_cashOf_1 rfl rfl ?_
  refine cVi C 5 j0 0 (av := [.int a1]) si_X5_hasInvestor lk_X5_75 (ok5 hj0) rfl rfl rfl rfl (st := []) rfl (Nat.le_of_ble_eq_true rfl) dX5_cashOf_2 h (fun _ _ hc => s_X5_hasInvestor (d := d) j0 a1 hj0 hc) (fun r1 σ2 h => ?_)
  refine v_if_eq C dX5_cashOf_5 (tgt := 20) (by decide) h (fun h => ?_) (fun h => ?_)
  · refine v_iconst C dX5_cashOf_20 ki_0 ?_
    exact v_iret C dX5_cashOf_21 h
  · refine v_aload_n C dX5_cashOf_8 rfl rfl ?_
    refine gf_X5_11 C hj0 dX5_cashOf_9 ?_
    refine v_iload_n C dX5_cashOf_12 rfl rfl ?_
    refine lq_11 C hj0 dX5_cashOf_13 h (fun h hq3 => ?_)
    refine gf_X5_78 C hj0 hq3 dX5_cashOf_14 ?_
    refine v_goto C dX5_cashOf_17 (tgt := 21) (by decide) ?_
    exact v_iret C dX5_cashOf_21 h

def dc_X5_give (j0 : Nat) (a1 : Int32) (a2 : Int32) (σ : Sto) : Option Sto :=
  (bd (dc_X5_hasInvestor j0 a1 σ) fun r1 σ2 => (if r1 = 0 then some σ2 else (if inb a1 8 then some (up σ2 48 j0 a1.toNatClampNeg ((σ2.1 48 j0 a1.toNatClampNeg) + a2)) else none)))
set_option maxRecDepth 20000 in
set_option maxHeartbeats 4000000 in
theorem s_X5_give {G : Gm} {d : Nat} (j0 : Nat) (a1 : Int32) (a2 : Int32) (hj0 : j0 < 7) {σ τ : Sto} (h : dc_X5_give j0 a1 a2 σ = some τ) : Cl G (d + 1) m_X5_give [.ref (ad G 5 j0 0), .int a1, .int a2] σ none τ := by
  unfold dc_X5_give at h
  refine Cl.mk (cc := cX5_give) (own := RX5) (nL := 3) (ret := none) rfl rfl rfl rfl (by decide +kernel) (catA rfl) (Nat.le_of_ble_eq_true rfl) (fun X C => ?_)
  show V X G 0 0 (QE X G none τ) σ 0 [some (.ref (ad G 5 j0 0)), some (.int a1), some (.int a2)] []
  refine v_aload_n C dX5_give_0 rfl rfl ?_
  refine v_iload_n C dX5_give_1 rfl rfl ?_
  refine cVi C 5 j0 0 (av := [.int a1]) si_X5_hasInvestor lk_X5_75 (ok5 hj0) rfl rfl rfl rfl (st := []) rfl (Nat.le_of_ble_eq_true rfl) dX5_give_2 h (fun _ _ hc => s_X5_hasInvestor (d := d) j0 a1 hj0 hc) (fun r1 σ2 h => ?_)
  refine v_if_eq C dX5_give_5 (tgt := 23) (by decide) h (fun h => ?_) (fun h => ?_)
  · exact v_vret C dX5_give_23 h
  · refine v_aload_n C dX5_give_8 rfl rfl ?_
    refine gf_X5_11 C hj0 dX5_give_9 ?_
    refine v_iload_n C dX5_give_12 rfl rfl ?_
    refine lq_11 C hj0 dX5_give_13 h (fun h hq3 => ?_)
    refine v_dup C dX5_give_14 rfl ?_
    refine gf_X5_78 C hj0 hq3 dX5_give_15 ?_
    refine v_iload_n C dX5_give_18 rfl rfl ?_
    refine v_iadd C dX5_give_19 ?_
    refine pf_X5_78 C hj0 hq3 dX5_give_20 ?_
    exact v_vret C dX5_give_23 h

def dc_X5_principals (j0 : Nat) (a1 : Int32) (a2 : Int32) (σ : Sto) : Option (Int32 × Sto) :=
  wh2 (fun (rec1 : Int32 → Int32 → Sto → Option (Int32 × Sto)) (x3 : Int32) (x4 : Int32) (σ2 : Sto) => (if (σ2.1 86 j0 0) ≤ x4 then some (x3, σ2) else (if inb x4 60 then (if (σ2.1 97 j0 x4.toNatClampNeg) = a1 then (if inb x4 60 then (if (σ2.1 98 j0 x4.toNatClampNeg) = a2 then (if inb x4 60 then rec1 (x3 + (σ2.1 99 j0 x4.toNatClampNeg)) (x4 + 1) σ2 else none) else rec1 x3 (x4 + 1) σ2) else none) else rec1 x3 (x4 + 1) σ2) else none))) FU (0 : Int32) (0 : Int32) σ
set_option maxRecDepth 20000 in
set_option maxHeartbeats 4000000 in
theorem s_X5_principals {G : Gm} {d : Nat} (j0 : Nat) (a1 : Int32) (a2 : Int32) (hj0 : j0 < 7) {σ τ : Sto} {r : Int32} (h : dc_X5_principals j0 a1 a2 σ = some (r, τ)) : Cl G d m_X5_principals [.ref (ad G 5 j0 0), .int a1, .int a2] σ (some (.int r)) τ := by
  unfold dc_X5_principals at h
  refine Cl.mk (cc := cX5_principals) (own := RX5) (nL := 5) (ret := (some .int)) rfl rfl rfl rfl (by decide +kernel) (catA rfl) (Nat.le_of_ble_eq_true rfl) (fun X C => ?_)
  show V X G 0 0 (QE X G (some (.int r)) τ) σ 0 [some (.ref (ad G 5 j0 0)), some (.int a1), some (.int a2), none, none] []
  refine v_iconst C dX5_principals_0 ki_0 ?_
  refine v_istore_n C dX5_principals_1 rfl (Nat.le_of_ble_eq_true rfl) (lc1 := [some (.ref (ad G 5 j0 0)), some (.int a1), some (.int a2), some (.int (0 : Int32)), none]) rfl ?_
  refine v_iconst C dX5_principals_2 ki_0 ?_
  refine v_istore C dX5_principals_3 (Nat.le_of_ble_eq_true rfl) (lc1 := [some (.ref (ad G 5 j0 0)), some (.int a1), some (.int a2), some (.int (0 : Int32)), some (.int (0 : Int32))]) rfl ?_
  refine v_loop2 (fun x3 x4 σ2 => V X G 0 0 (QE X G (some (.int r)) τ) σ2 5 [some (.ref (ad G 5 j0 0)), some (.int a1), some (.int a2), some (.int x3), some (.int x4)] []) (fun rec1 hrec1 x3 x4 σ2 h => ?_) h
  refine v_iload C dX5_principals_5 rfl ?_
  refine v_aload_n C dX5_principals_7 rfl rfl ?_
  refine gf_X5_43 C hj0 dX5_principals_8 ?_
  refine v_icmp_ge C dX5_principals_11 (tgt := 61) (by decide) h (fun h => ?_) (fun h => ?_)
  · refine v_iload_n C dX5_principals_61 rfl rfl ?_
    exact v_iret C dX5_principals_62 h
  · refine v_aload_n C dX5_principals_14 rfl rfl ?_
    refine gf_X5_25 C hj0 dX5_principals_15 ?_
    refine v_iload C dX5_principals_18 rfl ?_
    refine lq_13 C hj0 dX5_principals_20 h (fun h hq5 => ?_)
    refine gf_X5_124 C hj0 hq5 dX5_principals_21 ?_
    refine v_iload_n C dX5_principals_24 rfl rfl ?_
    refine v_icmp_ne C dX5_principals_25 (tgt := 55) (by decide) h (fun h => ?_) (fun h => ?_)
    · refine v_iinc C dX5_principals_55 rfl (kc_1 _) (lc1 := [some (.ref (ad G 5 j0 0)), some (.int a1), some (.int a2), some (.int x3), some (.int (x4 + 1))]) rfl ?_
      refine v_goto C dX5_principals_58 (tgt := 5) (by decide) ?_
      refine v_mask [true, true, true, true, true] (lc' := [some (.ref (ad G 5 j0 0)), some (.int a1), some (.int a2), some (.int x3), some (.int (x4 + 1))]) rfl ?_
      exact hrec1 _ _ _ h
    · refine v_aload_n C dX5_principals_28 rfl rfl ?_
      refine gf_X5_25 C hj0 dX5_principals_29 ?_
      refine v_iload C dX5_principals_32 rfl ?_
      refine lq_13 C hj0 dX5_principals_34 h (fun h hq6 => ?_)
      refine gf_X5_150 C hj0 hq6 dX5_principals_35 ?_
      refine v_iload_n C dX5_principals_38 rfl rfl ?_
      refine v_icmp_ne C dX5_principals_39 (tgt := 55) (by decide) h (fun h => ?_) (fun h => ?_)
      · refine v_iinc C dX5_principals_55 rfl (kc_1 _) (lc1 := [some (.ref (ad G 5 j0 0)), some (.int a1), some (.int a2), some (.int x3), some (.int (x4 + 1))]) rfl ?_
        refine v_goto C dX5_principals_58 (tgt := 5) (by decide) ?_
        refine v_mask [true, true, true, true, true] (lc' := [some (.ref (ad G 5 j0 0)), some (.int a1), some (.int a2), some (.int x3), some (.int (x4 + 1))]) rfl ?_
        exact hrec1 _ _ _ h
      · refine v_iload_n C dX5_principals_42 rfl rfl ?_
        refine v_aload_n C dX5_principals_43 rfl rfl ?_
        refine gf_X5_25 C hj0 dX5_principals_44 ?_
        refine v_iload C dX5_principals_47 rfl ?_
        refine lq_13 C hj0 dX5_principals_49 h (fun h hq7 => ?_)
        refine gf_X5_127 C hj0 hq7 dX5_principals_50 ?_
        refine v_iadd C dX5_principals_53 ?_
        refine v_istore_n C dX5_principals_54 rfl (Nat.le_of_ble_eq_true rfl) (lc1 := [some (.ref (ad G 5 j0 0)), some (.int a1), some (.int a2), some (.int (x3 + (σ2.1 99 j0 x4.toNatClampNeg))), some (.int x4)]) rfl ?_
        refine v_iinc C dX5_principals_55 rfl (kc_1 _) (lc1 := [some (.ref (ad G 5 j0 0)), some (.int a1), some (.int a2), some (.int (x3 + (σ2.1 99 j0 x4.toNatClampNeg))), some (.int (x4 + 1))]) rfl ?_
        refine v_goto C dX5_principals_58 (tgt := 5) (by decide) ?_
        refine v_mask [true, true, true, true, true] (lc' := [some (.ref (ad G 5 j0 0)), some (.int a1), some (.int a2), some (.int (x3 + (σ2.1 99 j0 x4.toNatClampNeg))), some (.int (x4 + 1))]) rfl ?_
        exact hrec1 _ _ _ h

def dc_X5_missing (j0 : Nat) (a1 : Int32) (σ : Sto) : Option (Int32 × Sto) :=
  (bd (dc_X5_hasLoan j0 a1 σ) fun r1 σ2 => (if r1 = 0 then some ((0 : Int32), σ2) else (if inb a1 10 then (if (σ2.1 64 j0 a1.toNatClampNeg) = 0 then (if inb a1 10 then (bd (dc_X5_principals j0 a1 (0 : Int32) σ2) fun r5 σ6 => (bd (dc_X5_principals j0 a1 (1 : Int32) σ6) fun r7 σ8 => some (((σ2.1 65 j0 a1.toNatClampNeg) - r5) - r7, σ8))) else none) else some ((0 : Int32), σ2)) else none)))
set_option maxRecDepth 20000 in
set_option maxHeartbeats 4000000 in
theorem s_X5_missing {G : Gm} {d : Nat} (j0 : Nat) (a1 : Int32) (hj0 : j0 < 7) {σ τ : Sto} {r : Int32} (h : dc_X5_missing j0 a1 σ = some (r, τ)) : Cl G (d + 1) m_X5_missing [.ref (ad G 5 j0 0), .int a1] σ (some (.int r)) τ := by
  unfold dc_X5_missing at h
  refine Cl.mk (cc := cX5_missing) (own := RX5) (nL := 2) (ret := (some .int)) rfl rfl rfl rfl (by decide +kernel) (catA rfl) (Nat.le_of_ble_eq_true rfl) (fun X C => ?_)
  show V X G 0 0 (QE X G (some (.int r)) τ) σ 0 [some (.ref (ad G 5 j0 0)), some (.int a1)] []
  refine v_aload_n C dX5_missing_0 rfl rfl ?_
  refine v_iload_n C dX5_missing_1 rfl rfl ?_
  refine cVi C 5 j0 0 (av := [.int a1]) si_X5_hasLoan lk_X5_68 (ok5 hj0) rfl rfl rfl rfl (st := []) rfl (Nat.le_of_ble_eq_true rfl) dX5_missing_2 h (fun _ _ hc => s_X5_hasLoan (d := d) j0 a1 hj0 hc) (fun r1 σ2 h => ?_)
  refine v_if_eq C dX5_missing_5 (tgt := 20) (by decide) h (fun h => ?_) (fun h => ?_)
  · refine v_iconst C dX5_missing_20 ki_0 ?_
    exact v_iret C dX5_missing_21 h
  · refine v_aload_n C dX5_missing_8 rfl rfl ?_
    refine gf_X5_19 C hj0 dX5_missing_9 ?_
    refine v_iload_n C dX5_missing_12 rfl rfl ?_
    refine lq_12 C hj0 dX5_missing_13 h (fun h hq3 => ?_)
    refine gf_X5_72 C hj0 hq3 dX5_missing_14 ?_
    refine v_if_eq C dX5_missing_17 (tgt := 22) (by decide) h (fun h => ?_) (fun h => ?_)
    · refine v_aload_n C dX5_missing_22 rfl rfl ?_
      refine gf_X5_19 C hj0 dX5_missing_23 ?_
      refine v_iload_n C dX5_missing_26 rfl rfl ?_
      refine lq_12 C hj0 dX5_missing_27 h (fun h hq4 => ?_)
      refine gf_X5_143 C hj0 hq4 dX5_missing_28 ?_
      refine v_aload_n C dX5_missing_31 rfl rfl ?_
      refine v_iload_n C dX5_missing_32 rfl rfl ?_
      refine v_iconst C dX5_missing_33 ki_0 ?_
      refine cVi C 5 j0 0 (av := [.int a1, .int (0 : Int32)]) si_X5_principals lk_X5_146 (ok5 hj0) rfl rfl rfl rfl (st := [.int (σ2.1 65 j0 a1.toNatClampNeg)]) rfl (Nat.le_of_ble_eq_true rfl) dX5_missing_34 h (fun _ _ hc => s_X5_principals (d := d) j0 a1 (0 : Int32) hj0 hc) (fun r5 σ6 h => ?_)
      refine v_isub C dX5_missing_37 ?_
      refine v_aload_n C dX5_missing_38 rfl rfl ?_
      refine v_iload_n C dX5_missing_39 rfl rfl ?_
      refine v_iconst C dX5_missing_40 ki_1 ?_
      refine cVi C 5 j0 0 (av := [.int a1, .int (1 : Int32)]) si_X5_principals lk_X5_146 (ok5 hj0) rfl rfl rfl rfl (st := [.int ((σ2.1 65 j0 a1.toNatClampNeg) - r5)]) rfl (Nat.le_of_ble_eq_true rfl) dX5_missing_41 h (fun _ _ hc => s_X5_principals (d := d) j0 a1 (1 : Int32) hj0 hc) (fun r7 σ8 h => ?_)
      refine v_isub C dX5_missing_44 ?_
      exact v_iret C dX5_missing_45 h
    · refine v_iconst C dX5_missing_20 ki_0 ?_
      exact v_iret C dX5_missing_21 h

def dc_X5_fundingError (j0 : Nat) (a1 : Int32) (a2 : Int32) (a3 : Int32) (σ : Sto) : Option (Int32 × Sto) :=
  (bd (dc_X5_hasInvestor j0 a1 σ) fun r1 σ2 => (if r1 = 0 then some ((-1 : Int32), σ2) else (bd (dc_X5_hasLoan j0 a2 σ2) fun r3 σ4 => (if r3 = 0 then some ((-1 : Int32), σ4) else (if a3 < (1 : Int32) then some ((-2 : Int32), σ4) else (if a3 ≤ (99999 : Int32) then (if inb a2 10 then (if (σ4.1 64 j0 a2.toNatClampNeg) = 0 then (bd (dc_X5_missing j0 a2 σ4) fun r6 σ7 => (if r6 < a3 then some ((-4 : Int32), σ7) else (if inb a1 8 then (if a3 ≤ (σ7.1 48 j0 a1.toNatClampNeg) then (if (σ7.1 86 j0 0) < (60 : Int32) then some ((0 : Int32), σ7) else some ((-3 : Int32), σ7)) else some ((-4 : Int32), σ7)) else none))) else some ((-4 : Int32), σ4)) else none) else some ((-2 : Int32), σ4)))))))
set_option maxRecDepth 20000 in
set_option maxHeartbeats 4000000 in
theorem s_X5_fundingError {G : Gm} {d : Nat} (j0 : Nat) (a1 : Int32) (a2 : Int32) (a3 : Int32) (hj0 : j0 < 7) {σ τ : Sto} {r : Int32} (h : dc_X5_fundingError j0 a1 a2 a3 σ = some (r, τ)) : Cl G (d + 2) m_X5_fundingError [.ref (ad G 5 j0 0), .int a1, .int a2, .int a3] σ (some (.int r)) τ := by
  unfold dc_X5_fundingError at h
  refine Cl.mk (cc := cX5_fundingError) (own := RX5) (nL := 4) (ret := (some .int)) rfl rfl rfl rfl (by decide +kernel) (catA rfl) (Nat.le_of_ble_eq_true rfl) (fun X C => ?_)
  show V X G 0 0 (QE X G (some (.int r)) τ) σ 0 [some (.ref (ad G 5 j0 0)), some (.int a1), some (.int a2), some (.int a3)] []
  refine v_aload_n C dX5_fundingError_0 rfl rfl ?_
  refine v_iload_n C dX5_fundingError_1 rfl rfl ?_
  refine cVi C 5 j0 0 (av := [.int a1]) si_X5_hasInvestor lk_X5_75 (ok5 hj0) rfl rfl rfl rfl (st := []) rfl (Nat.le_of_ble_eq_true rfl) dX5_fundingError_2 h (fun _ _ hc => s_X5_hasInvestor (d := (d + 1)) j0 a1 hj0 hc) (fun r1 σ2 h => ?_)
  refine v_if_eq C dX5_fundingError_5 (tgt := 16) (by decide) h (fun h => ?_) (fun h => ?_)
  · refine v_iconst C dX5_fundingError_16 ki_m1 ?_
    exact v_iret C dX5_fundingError_17 h
  · refine v_aload_n C dX5_fundingError_8 rfl rfl ?_
    refine v_iload_n C dX5_fundingError_9 rfl rfl ?_
    refine cVi C 5 j0 0 (av := [.int a2]) si_X5_hasLoan lk_X5_68 (ok5 hj0) rfl rfl rfl rfl (st := []) rfl (Nat.le_of_ble_eq_true rfl) dX5_fundingError_10 h (fun _ _ hc => s_X5_hasLoan (d := (d + 1)) j0 a2 hj0 hc) (fun r3 σ4 h => ?_)
    refine v_if_ne C dX5_fundingError_13 (tgt := 18) (by decide) h (fun h => ?_) (fun h => ?_)
    · refine v_iload_n C dX5_fundingError_18 rfl rfl ?_
      refine v_iconst C dX5_fundingError_19 ki_1 ?_
      refine v_icmp_lt C dX5_fundingError_20 (tgt := 29) (by decide) h (fun h => ?_) (fun h => ?_)
      · refine v_bipush C dX5_fundingError_29 kb_m2 ?_
        exact v_iret C dX5_fundingError_31 h
      · refine v_iload_n C dX5_fundingError_23 rfl rfl ?_
        refine v_ldc C dX5_fundingError_24 lk_X5_81 ?_
        refine v_icmp_le C dX5_fundingError_26 (tgt := 32) (by decide) h (fun h => ?_) (fun h => ?_)
        · refine v_aload_n C dX5_fundingError_32 rfl rfl ?_
          refine gf_X5_19 C hj0 dX5_fundingError_33 ?_
          refine v_iload_n C dX5_fundingError_36 rfl rfl ?_
          refine lq_12 C hj0 dX5_fundingError_37 h (fun h hq5 => ?_)
          refine gf_X5_72 C hj0 hq5 dX5_fundingError_38 ?_
          refine v_if_ne C dX5_fundingError_41 (tgt := 66) (by decide) h (fun h => ?_) (fun h => ?_)
          · refine v_bipush C dX5_fundingError_66 kb_m4 ?_
            exact v_iret C dX5_fundingError_68 h
          · refine v_iload_n C dX5_fundingError_44 rfl rfl ?_
            refine v_aload_n C dX5_fundingError_45 rfl rfl ?_
            refine v_iload_n C dX5_fundingError_46 rfl rfl ?_
            refine cVi C 5 j0 0 (av := [.int a2]) si_X5_missing lk_X5_82 (ok5 hj0) rfl rfl rfl rfl (st := [.int a3]) rfl (Nat.le_of_ble_eq_true rfl) dX5_fundingError_47 h (fun _ _ hc => s_X5_missing (d := d) j0 a2 hj0 hc) (fun r6 σ7 h => ?_)
            refine v_icmp_gt C dX5_fundingError_50 (tgt := 66) (by decide) h (fun h => ?_) (fun h => ?_)
            · refine v_bipush C dX5_fundingError_66 kb_m4 ?_
              exact v_iret C dX5_fundingError_68 h
            · refine v_iload_n C dX5_fundingError_53 rfl rfl ?_
              refine v_aload_n C dX5_fundingError_54 rfl rfl ?_
              refine gf_X5_11 C hj0 dX5_fundingError_55 ?_
              refine v_iload_n C dX5_fundingError_58 rfl rfl ?_
              refine lq_11 C hj0 dX5_fundingError_59 h (fun h hq8 => ?_)
              refine gf_X5_78 C hj0 hq8 dX5_fundingError_60 ?_
              refine v_icmp_le C dX5_fundingError_63 (tgt := 69) (by decide) h (fun h => ?_) (fun h => ?_)
              · refine v_aload_n C dX5_fundingError_69 rfl rfl ?_
                refine gf_X5_43 C hj0 dX5_fundingError_70 ?_
                refine v_bipush C dX5_fundingError_73 kb_60 ?_
                refine v_icmp_lt C dX5_fundingError_75 (tgt := 83) (by decide) h (fun h => ?_) (fun h => ?_)
                · refine v_iconst C dX5_fundingError_83 ki_0 ?_
                  exact v_iret C dX5_fundingError_84 h
                · refine v_bipush C dX5_fundingError_78 kb_m3 ?_
                  refine v_goto C dX5_fundingError_80 (tgt := 84) (by decide) ?_
                  exact v_iret C dX5_fundingError_84 h
              · refine v_bipush C dX5_fundingError_66 kb_m4 ?_
                exact v_iret C dX5_fundingError_68 h
        · refine v_bipush C dX5_fundingError_29 kb_m2 ?_
          exact v_iret C dX5_fundingError_31 h
    · refine v_iconst C dX5_fundingError_16 ki_m1 ?_
      exact v_iret C dX5_fundingError_17 h

def dc_X6_open (j0 : Nat) (l0 : Nat) (a1 : Int32) (a2 : Int32) (a3 : Int32) (a4 : Int32) (σ : Sto) : Option Sto :=
  (lt (up (up σ 96 j0 l0 a1) 97 j0 l0 a2) fun σ1 => (lt (up (up σ1 98 j0 l0 a3) 99 j0 l0 a4) fun σ2 => (lt (up (up σ2 100 j0 l0 a4) 101 j0 l0 (0 : Int32)) fun σ3 => some (up σ3 102 j0 l0 (0 : Int32)))))
set_option maxRecDepth 20000 in
set_option maxHeartbeats 4000000 in
theorem s_X6_open {G : Gm} {d : Nat} (j0 : Nat) (l0 : Nat) (a1 : Int32) (a2 : Int32) (a3 : Int32) (a4 : Int32) (hj0 : j0 < 7) (hl0 : l0 < 60) {σ τ : Sto} (h : dc_X6_open j0 l0 a1 a2 a3 a4 σ = some τ) : Cl G d m_X6_open [.ref (ad G 6 j0 l0), .int a1, .int a2, .int a3, .int a4] σ none τ := by
  unfold dc_X6_open at h
  refine Cl.mk (cc := cX6_open) (own := RX6) (nL := 5) (ret := none) rfl rfl rfl rfl (by decide +kernel) (catA rfl) (Nat.le_of_ble_eq_true rfl) (fun X C => ?_)
  show V X G 0 0 (QE X G none τ) σ 0 [some (.ref (ad G 6 j0 l0)), some (.int a1), some (.int a2), some (.int a3), some (.int a4)] []
  refine v_aload_n C dX6_open_0 rfl rfl ?_
  refine v_iload_n C dX6_open_1 rfl rfl ?_
  refine pf_X6_7 C hj0 hl0 dX6_open_2 ?_
  refine v_aload_n C dX6_open_5 rfl rfl ?_
  refine v_iload_n C dX6_open_6 rfl rfl ?_
  refine pf_X6_13 C hj0 hl0 dX6_open_7 ?_
  refine v_lt h (fun σ1 h => ?_)
  refine v_aload_n C dX6_open_10 rfl rfl ?_
  refine v_iload_n C dX6_open_11 rfl rfl ?_
  refine pf_X6_16 C hj0 hl0 dX6_open_12 ?_
  refine v_aload_n C dX6_open_15 rfl rfl ?_
  refine v_iload C dX6_open_16 rfl ?_
  refine pf_X6_19 C hj0 hl0 dX6_open_18 ?_
  refine v_lt h (fun σ2 h => ?_)
  refine v_aload_n C dX6_open_21 rfl rfl ?_
  refine v_iload C dX6_open_22 rfl ?_
  refine pf_X6_22 C hj0 hl0 dX6_open_24 ?_
  refine v_aload_n C dX6_open_27 rfl rfl ?_
  refine v_iconst C dX6_open_28 ki_0 ?_
  refine pf_X6_25 C hj0 hl0 dX6_open_29 ?_
  refine v_lt h (fun σ3 h => ?_)
  refine v_aload_n C dX6_open_32 rfl rfl ?_
  refine v_iconst C dX6_open_33 ki_0 ?_
  refine pf_X6_28 C hj0 hl0 dX6_open_34 ?_
  exact v_vret C dX6_open_37 h

def dc_X5_addNote (j0 : Nat) (a1 : Int32) (a2 : Int32) (a3 : Int32) (a4 : Int32) (σ : Sto) : Option Sto :=
  (bd (dc_X5_fundingError j0 a1 a2 a4 σ) fun r1 σ2 => (if r1 = 0 then (if inb (σ2.1 86 j0 0) 60 then (bv (dc_X6_open j0 ((σ2.1 86 j0 0).toNatClampNeg) a1 a2 a3 a4 σ2) fun σ5 => (bv (dc_X5_give j0 a1 (-a4) (up σ5 86 j0 0 ((σ5.1 86 j0 0) + (1 : Int32)))) fun σ7 => (bd (dc_X5_missing j0 a2 σ7) fun r8 σ9 => (if r8 = 0 then (if inb a2 10 then (bv (dc_X4_start j0 a2.toNatClampNeg σ9) fun σ12 => some σ12) else none) else some σ9)))) else none) else some σ2))
set_option maxRecDepth 20000 in
set_option maxHeartbeats 4000000 in
theorem s_X5_addNote {G : Gm} {d : Nat} (j0 : Nat) (a1 : Int32) (a2 : Int32) (a3 : Int32) (a4 : Int32) (hj0 : j0 < 7) {σ τ : Sto} (h : dc_X5_addNote j0 a1 a2 a3 a4 σ = some τ) : Cl G (d + 3) m_X5_addNote [.ref (ad G 5 j0 0), .int a1, .int a2, .int a3, .int a4] σ none τ := by
  unfold dc_X5_addNote at h
  refine Cl.mk (cc := cX5_addNote) (own := RX5) (nL := 5) (ret := none) rfl rfl rfl rfl (by decide +kernel) (catA rfl) (Nat.le_of_ble_eq_true rfl) (fun X C => ?_)
  show V X G 0 0 (QE X G none τ) σ 0 [some (.ref (ad G 5 j0 0)), some (.int a1), some (.int a2), some (.int a3), some (.int a4)] []
  refine v_aload_n C dX5_addNote_0 rfl rfl ?_
  refine v_iload_n C dX5_addNote_1 rfl rfl ?_
  refine v_iload_n C dX5_addNote_2 rfl rfl ?_
  refine v_iload C dX5_addNote_3 rfl ?_
  refine cVi C 5 j0 0 (av := [.int a1, .int a2, .int a4]) si_X5_fundingError lk_X5_86 (ok5 hj0) rfl rfl rfl rfl (st := []) rfl (Nat.le_of_ble_eq_true rfl) dX5_addNote_5 h (fun _ _ hc => s_X5_fundingError (d := d) j0 a1 a2 a4 hj0 hc) (fun r1 σ2 h => ?_)
  refine v_if_eq C dX5_addNote_8 (tgt := 12) (by decide) h (fun h => ?_) (fun h => ?_)
  · refine v_aload_n C dX5_addNote_12 rfl rfl ?_
    refine gf_X5_25 C hj0 dX5_addNote_13 ?_
    refine v_aload_n C dX5_addNote_16 rfl rfl ?_
    refine gf_X5_43 C hj0 dX5_addNote_17 ?_
    refine lq_13 C hj0 dX5_addNote_20 h (fun h hq3 => ?_)
    refine v_iload_n C dX5_addNote_21 rfl rfl ?_
    refine v_iload_n C dX5_addNote_22 rfl rfl ?_
    refine v_iload_n C dX5_addNote_23 rfl rfl ?_
    refine v_iload C dX5_addNote_24 rfl ?_
    refine cVv C 6 j0 ((σ2.1 86 j0 0).toNatClampNeg) (av := [.int a1, .int a2, .int a3, .int a4]) si_X6_open lk_X5_90 (ok6 hj0 hq3) rfl rfl rfl rfl (st := []) rfl (Nat.le_of_ble_eq_true rfl) dX5_addNote_26 h (fun _ hc => s_X6_open (d := (d + 2)) j0 ((σ2.1 86 j0 0).toNatClampNeg) a1 a2 a3 a4 hj0 hq3 hc) (fun σ5 h => ?_)
    refine v_aload_n C dX5_addNote_29 rfl rfl ?_
    refine v_dup C dX5_addNote_30 rfl ?_
    refine gf_X5_43 C hj0 dX5_addNote_31 ?_
    refine v_iconst C dX5_addNote_34 ki_1 ?_
    refine v_iadd C dX5_addNote_35 ?_
    refine pf_X5_43 C hj0 dX5_addNote_36 ?_
    refine v_aload_n C dX5_addNote_39 rfl rfl ?_
    refine v_iload_n C dX5_addNote_40 rfl rfl ?_
    refine v_iload C dX5_addNote_41 rfl ?_
    refine v_ineg C dX5_addNote_43 ?_
    refine cVv C 5 j0 0 (av := [.int a1, .int (-a4)]) si_X5_give lk_X5_94 (ok5 hj0) rfl rfl rfl rfl (st := []) rfl (Nat.le_of_ble_eq_true rfl) dX5_addNote_44 h (fun _ hc => s_X5_give (d := (d + 1)) j0 a1 (-a4) hj0 hc) (fun σ7 h => ?_)
    refine v_aload_n C dX5_addNote_47 rfl rfl ?_
    refine v_iload_n C dX5_addNote_48 rfl rfl ?_
    refine cVi C 5 j0 0 (av := [.int a2]) si_X5_missing lk_X5_82 (ok5 hj0) rfl rfl rfl rfl (st := []) rfl (Nat.le_of_ble_eq_true rfl) dX5_addNote_49 h (fun _ _ hc => s_X5_missing (d := (d + 1)) j0 a2 hj0 hc) (fun r8 σ9 h => ?_)
    refine v_if_ne C dX5_addNote_52 (tgt := 64) (by decide) h (fun h => ?_) (fun h => ?_)
    · exact v_vret C dX5_addNote_64 h
    · refine v_aload_n C dX5_addNote_55 rfl rfl ?_
      refine gf_X5_19 C hj0 dX5_addNote_56 ?_
      refine v_iload_n C dX5_addNote_59 rfl rfl ?_
      refine lq_12 C hj0 dX5_addNote_60 h (fun h hq10 => ?_)
      refine cVv C 4 j0 a2.toNatClampNeg (av := []) si_X4_start lk_X5_98 (ok4 hj0 hq10) rfl rfl rfl rfl (st := []) rfl (Nat.le_of_ble_eq_true rfl) dX5_addNote_61 h (fun _ hc => s_X4_start (d := (d + 1)) j0 a2.toNatClampNeg hj0 hq10 hc) (fun σ12 h => ?_)
      exact v_vret C dX5_addNote_64 h
  · exact v_vret C dX5_addNote_11 h

def dc_X9_isServicer (a0 : Int32) (σ : Sto) : Option (Int32 × Sto) :=
  (if a0 < 0 then some ((0 : Int32), σ) else (if (4 : Int32) ≤ a0 then some ((0 : Int32), σ) else some ((1 : Int32), σ)))
set_option maxRecDepth 20000 in
set_option maxHeartbeats 4000000 in
theorem s_X9_isServicer {G : Gm} {d : Nat} (a0 : Int32) {σ τ : Sto} {r : Int32} (h : dc_X9_isServicer a0 σ = some (r, τ)) : Cl G d m_X9_isServicer [.int a0] σ (some (.int r)) τ := by
  unfold dc_X9_isServicer at h
  refine Cl.mk (cc := cX9_isServicer) (own := RX9) (nL := 1) (ret := (some .boolean)) rfl rfl rfl rfl (by decide +kernel) (catA rfl) (Nat.le_of_ble_eq_true rfl) (fun X C => ?_)
  show V X G 0 0 (QE X G (some (.int r)) τ) σ 0 [some (.int a0)] []
  refine v_iload_n C dX9_isServicer_0 rfl rfl ?_
  refine v_if_lt C dX9_isServicer_1 (tgt := 16) (by decide) h (fun h => ?_) (fun h => ?_)
  · refine v_iconst C dX9_isServicer_16 ki_0 ?_
    exact v_zretc C dX9_isServicer_17 (nar01 (Or.inl rfl)) h
  · refine v_iload_n C dX9_isServicer_4 rfl rfl ?_
    refine v_fees C lk_X9_313 dX9_isServicer_5 ?_
    refine v_feelen C dX9_isServicer_8 ?_
    refine v_icmp_ge C dX9_isServicer_9 (tgt := 16) (by decide) h (fun h => ?_) (fun h => ?_)
    · refine v_iconst C dX9_isServicer_16 ki_0 ?_
      exact v_zretc C dX9_isServicer_17 (nar01 (Or.inl rfl)) h
    · refine v_iconst C dX9_isServicer_12 ki_1 ?_
      refine v_goto C dX9_isServicer_13 (tgt := 17) (by decide) ?_
      exact v_zretc C dX9_isServicer_17 (nar01 (Or.inr rfl)) h

def dc_X5_takePayment (j0 : Nat) (a1 : Int32) (σ : Sto) : Option Sto :=
  (bd (dc_X5_hasLoan j0 a1 σ) fun r1 σ2 => (if r1 = 0 then some σ2 else (if inb a1 10 then (bd (dc_X9_isServicer (σ2.1 73 j0 a1.toNatClampNeg) σ2) fun r4 σ5 => jn (fun (σ6 : Sto) => (if inb a1 10 then (bv (dc_X4_takePayment j0 a1.toNatClampNeg ((up σ6 88 j0 0 ((σ6.1 88 j0 0) + (σ6.1 114 0 0))).1 113 0 0) ((up σ6 88 j0 0 ((σ6.1 88 j0 0) + (σ6.1 114 0 0))).1 115 0 0) (up σ6 88 j0 0 ((σ6.1 88 j0 0) + (σ6.1 114 0 0)))) fun σ10 => some σ10) else none)) (fun k7 => (if r4 = 0 then k7 σ5 else (if inb (σ2.1 73 j0 a1.toNatClampNeg) 4 then (if inb (σ2.1 73 j0 a1.toNatClampNeg) 4 then k7 (up σ5 224 j0 (σ2.1 73 j0 a1.toNatClampNeg).toNatClampNeg ((σ5.1 224 j0 (σ2.1 73 j0 a1.toNatClampNeg).toNatClampNeg) + (σ5.1 112 0 0))) else none) else none)))) else none)))
set_option maxRecDepth 20000 in
set_option maxHeartbeats 4000000 in
theorem s_X5_takePayment {G : Gm} {d : Nat} (j0 : Nat) (a1 : Int32) (hj0 : j0 < 7) {σ τ : Sto} (h : dc_X5_takePayment j0 a1 σ = some τ) : Cl G (d + 2) m_X5_takePayment [.ref (ad G 5 j0 0), .int a1, .ref (ad G 7 0 0)] σ none τ := by
  unfold dc_X5_takePayment at h
  refine Cl.mk (cc := cX5_takePayment) (own := RX5) (nL := 4) (ret := none) rfl rfl rfl rfl (by decide +kernel) (catA rfl) (Nat.le_of_ble_eq_true rfl) (fun X C => ?_)
  show V X G 0 0 (QE X G none τ) σ 0 [some (.ref (ad G 5 j0 0)), some (.int a1), some (.ref (ad G 7 0 0)), none] []
  refine v_aload_n C dX5_takePayment_0 rfl rfl ?_
  refine v_iload_n C dX5_takePayment_1 rfl rfl ?_
  refine cVi C 5 j0 0 (av := [.int a1]) si_X5_hasLoan lk_X5_68 (ok5 hj0) rfl rfl rfl rfl (st := []) rfl (Nat.le_of_ble_eq_true rfl) dX5_takePayment_2 h (fun _ _ hc => s_X5_hasLoan (d := (d + 1)) j0 a1 hj0 hc) (fun r1 σ2 h => ?_)
  refine v_if_ne C dX5_takePayment_5 (tgt := 9) (by decide) h (fun h => ?_) (fun h => ?_)
  · refine v_aload_n C dX5_takePayment_9 rfl rfl ?_
    refine gf_X5_19 C hj0 dX5_takePayment_10 ?_
    refine v_iload_n C dX5_takePayment_13 rfl rfl ?_
    refine lq_12 C hj0 dX5_takePayment_14 h (fun h hq3 => ?_)
    refine gf_X5_101 C hj0 hq3 dX5_takePayment_15 ?_
    refine v_istore_n C dX5_takePayment_18 rfl (Nat.le_of_ble_eq_true rfl) (lc1 := [some (.ref (ad G 5 j0 0)), some (.int a1), some (.ref (ad G 7 0 0)), some (.int (σ2.1 73 j0 a1.toNatClampNeg))]) rfl ?_
    refine v_iload_n C dX5_takePayment_19 rfl rfl ?_
    refine cSNi C (av := [.int (σ2.1 73 j0 a1.toNatClampNeg)]) si_X9_isServicer lk_X5_104 rfl rfl (st := []) rfl (Nat.le_of_ble_eq_true rfl) dX5_takePayment_20 h (fun _ _ hc => s_X9_isServicer (d := (d + 1)) (σ2.1 73 j0 a1.toNatClampNeg)  hc) (fun r4 σ5 h => ?_)
    refine v_join (fun k => ∀ (σ6 : Sto), k σ6 = some τ → V X G 0 0 (QE X G none τ) σ6 39 [some (.ref (ad G 5 j0 0)), some (.int a1), some (.ref (ad G 7 0 0)), some (.int (σ2.1 73 j0 a1.toNatClampNeg))] []) h (fun σ6 h => ?_) (fun k7 hk7 h => ?_)
    · refine v_aload_n C dX5_takePayment_39 rfl rfl ?_
      refine v_dup C dX5_takePayment_40 rfl ?_
      refine gf_X5_49 C hj0 dX5_takePayment_41 ?_
      refine v_aload_n C dX5_takePayment_44 rfl rfl ?_
      refine gf_X5_112 C dX5_takePayment_45 ?_
      refine v_iadd C dX5_takePayment_48 ?_
      refine pf_X5_49 C hj0 dX5_takePayment_49 ?_
      refine v_aload_n C dX5_takePayment_52 rfl rfl ?_
      refine gf_X5_19 C hj0 dX5_takePayment_53 ?_
      refine v_iload_n C dX5_takePayment_56 rfl rfl ?_
      refine lq_12 C hj0 dX5_takePayment_57 h (fun h hq8 => ?_)
      refine v_aload_n C dX5_takePayment_58 rfl rfl ?_
      refine gf_X5_115 C dX5_takePayment_59 ?_
      refine v_aload_n C dX5_takePayment_62 rfl rfl ?_
      refine gf_X5_118 C dX5_takePayment_63 ?_
      refine cVv C 4 j0 a1.toNatClampNeg (av := [.int ((up σ6 88 j0 0 ((σ6.1 88 j0 0) + (σ6.1 114 0 0))).1 113 0 0), .int ((up σ6 88 j0 0 ((σ6.1 88 j0 0) + (σ6.1 114 0 0))).1 115 0 0)]) si_X4_takePayment lk_X5_121 (ok4 hj0 hq8) rfl rfl rfl rfl (st := []) rfl (Nat.le_of_ble_eq_true rfl) dX5_takePayment_66 h (fun _ hc => s_X4_takePayment (d := d) j0 a1.toNatClampNeg ((up σ6 88 j0 0 ((σ6.1 88 j0 0) + (σ6.1 114 0 0))).1 113 0 0) ((up σ6 88 j0 0 ((σ6.1 88 j0 0) + (σ6.1 114 0 0))).1 115 0 0) hj0 hq8 hc) (fun σ10 h => ?_)
      exact v_vret C dX5_takePayment_69 h
    · refine v_if_eq C dX5_takePayment_23 (tgt := 39) (by decide) h (fun h => ?_) (fun h => ?_)
      · refine v_mask [true, true, true, true] (lc' := [some (.ref (ad G 5 j0 0)), some (.int a1), some (.ref (ad G 7 0 0)), some (.int (σ2.1 73 j0 a1.toNatClampNeg))]) rfl ?_
        exact hk7 _ h
      · refine v_aload_n C dX5_takePayment_26 rfl rfl ?_
        refine gf_X5_33 C hj0 dX5_takePayment_27 ?_
        refine v_iload_n C dX5_takePayment_30 rfl rfl ?_
        refine v_dup2 C dX5_takePayment_31 rfl rfl ?_
        refine ld_14 C hj0 dX5_takePayment_32 h (fun h => ?_)
        refine v_aload_n C dX5_takePayment_33 rfl rfl ?_
        refine gf_X5_107 C dX5_takePayment_34 ?_
        refine v_iadd C dX5_takePayment_37 ?_
        refine as_14 C hj0 dX5_takePayment_38 h (fun h => ?_)
        refine v_mask [true, true, true, true] (lc' := [some (.ref (ad G 5 j0 0)), some (.int a1), some (.ref (ad G 7 0 0)), some (.int (σ2.1 73 j0 a1.toNatClampNeg))]) rfl ?_
        exact hk7 _ h
  · exact v_vret C dX5_takePayment_8 h
