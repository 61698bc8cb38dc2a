/-! ===== every contract of the desk and of the model ===== -/
set_option maxRecDepth 100000 in
set_option maxHeartbeats 4000000 in
theorem mM_J6_bitCount_0f7a4 {l : Launch} {Ω : Wm} (hk : Hk Ω kM)  (hv : ∀ (x0 : Int32) (σ : Sg) (K : Int32 → Sg → Prop), sp_J6_bitCount_0f7a4 x0 σ K → vc_J6_bitCount_0f7a4 x0 σ K) : CT_J6_bitCount_0f7a4 l Ω := by
  intro x0 σ Po hsp
  have hvc := hv x0 σ Po hsp
  refine Ct.of (by decide +kernel) (Nat.le_of_ble_eq_true rfl) (fun Γ C => ?_)
  have h : f_J6_bitCount_0f7a4_e Po x0 σ := hvc  
  unfold f_J6_bitCount_0f7a4_e at h
  refine ok_sub (L2 := [(0, .int x0)]) [0] rfl ?_
  refine ok_iload_n C 0 dJ6_bitCount_0f7a4_0 rfl rfl ?_
  refine ok_iload_n C 0 dJ6_bitCount_0f7a4_1 rfl rfl ?_
  refine ok_iconst C (v := 1) dJ6_bitCount_0f7a4_2 (by decide) ?_
  refine ok_iushr C dJ6_bitCount_0f7a4_3 ?_
  refine ok_ldcw C W_4_112 dJ6_bitCount_0f7a4_4 ?_
  refine ok_iand C dJ6_bitCount_0f7a4_7 ?_
  refine ok_isub C dJ6_bitCount_0f7a4_8 ?_
  refine ok_istore_n C (L2 := [(0, .int (x0 - ((iush x0 1) &&& 1431655765)))]) dJ6_bitCount_0f7a4_9 rfl (by decide) rfl ?_
  refine ok_iload_n C 0 dJ6_bitCount_0f7a4_10 rfl rfl ?_
  refine ok_ldcw C W_4_113 dJ6_bitCount_0f7a4_11 ?_
  refine ok_iand C dJ6_bitCount_0f7a4_14 ?_
  refine ok_iload_n C 0 dJ6_bitCount_0f7a4_15 rfl rfl ?_
  refine ok_iconst C (v := 2) dJ6_bitCount_0f7a4_16 (by decide) ?_
  refine ok_iushr C dJ6_bitCount_0f7a4_17 ?_
  refine ok_ldcw C W_4_113 dJ6_bitCount_0f7a4_18 ?_
  refine ok_iand C dJ6_bitCount_0f7a4_21 ?_
  refine ok_iadd C dJ6_bitCount_0f7a4_22 ?_
  refine ok_istore_n C (L2 := [(0, .int (((x0 - ((iush x0 1) &&& 1431655765)) &&& 858993459) + ((iush (x0 - ((iush x0 1) &&& 1431655765)) 2) &&& 858993459)))]) dJ6_bitCount_0f7a4_23 rfl (by decide) rfl ?_
  refine ok_iload_n C 0 dJ6_bitCount_0f7a4_24 rfl rfl ?_
  refine ok_iload_n C 0 dJ6_bitCount_0f7a4_25 rfl rfl ?_
  refine ok_iconst C (v := 4) dJ6_bitCount_0f7a4_26 (by decide) ?_
  refine ok_iushr C dJ6_bitCount_0f7a4_27 ?_
  refine ok_iadd C dJ6_bitCount_0f7a4_28 ?_
  refine ok_ldcw C W_4_114 dJ6_bitCount_0f7a4_29 ?_
  refine ok_iand C dJ6_bitCount_0f7a4_32 ?_
  refine ok_istore_n C (L2 := [(0, .int (((((x0 - ((iush x0 1) &&& 1431655765)) &&& 858993459) + ((iush (x0 - ((iush x0 1) &&& 1431655765)) 2) &&& 858993459)) + (iush (((x0 - ((iush x0 1) &&& 1431655765)) &&& 858993459) + ((iush (x0 - ((iush x0 1) &&& 1431655765)) 2) &&& 858993459)) 4)) &&& 252645135))]) dJ6_bitCount_0f7a4_33 rfl (by decide) rfl ?_
  refine ok_iload_n C 0 dJ6_bitCount_0f7a4_34 rfl rfl ?_
  refine ok_iload_n C 0 dJ6_bitCount_0f7a4_35 rfl rfl ?_
  refine ok_bipush C (v := 8) dJ6_bitCount_0f7a4_36 (by decide) ?_
  refine ok_iushr C dJ6_bitCount_0f7a4_38 ?_
  refine ok_iadd C dJ6_bitCount_0f7a4_39 ?_
  refine ok_istore_n C (L2 := [(0, .int ((((((x0 - ((iush x0 1) &&& 1431655765)) &&& 858993459) + ((iush (x0 - ((iush x0 1) &&& 1431655765)) 2) &&& 858993459)) + (iush (((x0 - ((iush x0 1) &&& 1431655765)) &&& 858993459) + ((iush (x0 - ((iush x0 1) &&& 1431655765)) 2) &&& 858993459)) 4)) &&& 252645135) + (iush (((((x0 - ((iush x0 1) &&& 1431655765)) &&& 858993459) + ((iush (x0 - ((iush x0 1) &&& 1431655765)) 2) &&& 858993459)) + (iush (((x0 - ((iush x0 1) &&& 1431655765)) &&& 858993459) + ((iush (x0 - ((iush x0 1) &&& 1431655765)) 2) &&& 858993459)) 4)) &&& 252645135) 8)))]) dJ6_bitCount_0f7a4_40 rfl (by decide) rfl ?_
  refine ok_iload_n C 0 dJ6_bitCount_0f7a4_41 rfl rfl ?_
  refine ok_iload_n C 0 dJ6_bitCount_0f7a4_42 rfl rfl ?_
  refine ok_bipush C (v := 16) dJ6_bitCount_0f7a4_43 (by decide) ?_
  refine ok_iushr C dJ6_bitCount_0f7a4_45 ?_
  refine ok_iadd C dJ6_bitCount_0f7a4_46 ?_
  refine ok_istore_n C (L2 := [(0, .int (((((((x0 - ((iush x0 1) &&& 1431655765)) &&& 858993459) + ((iush (x0 - ((iush x0 1) &&& 1431655765)) 2) &&& 858993459)) + (iush (((x0 - ((iush x0 1) &&& 1431655765)) &&& 858993459) + ((iush (x0 - ((iush x0 1) &&& 1431655765)) 2) &&& 858993459)) 4)) &&& 252645135) + (iush (((((x0 - ((iush x0 1) &&& 1431655765)) &&& 858993459) + ((iush (x0 - ((iush x0 1) &&& 1431655765)) 2) &&& 858993459)) + (iush (((x0 - ((iush x0 1) &&& 1431655765)) &&& 858993459) + ((iush (x0 - ((iush x0 1) &&& 1431655765)) 2) &&& 858993459)) 4)) &&& 252645135) 8)) + (iush ((((((x0 - ((iush x0 1) &&& 1431655765)) &&& 858993459) + ((iush (x0 - ((iush x0 1) &&& 1431655765)) 2) &&& 858993459)) + (iush (((x0 - ((iush x0 1) &&& 1431655765)) &&& 858993459) + ((iush (x0 - ((iush x0 1) &&& 1431655765)) 2) &&& 858993459)) 4)) &&& 252645135) + (iush (((((x0 - ((iush x0 1) &&& 1431655765)) &&& 858993459) + ((iush (x0 - ((iush x0 1) &&& 1431655765)) 2) &&& 858993459)) + (iush (((x0 - ((iush x0 1) &&& 1431655765)) &&& 858993459) + ((iush (x0 - ((iush x0 1) &&& 1431655765)) 2) &&& 858993459)) 4)) &&& 252645135) 8)) 16)))]) dJ6_bitCount_0f7a4_47 rfl (by decide) rfl ?_
  refine ok_iload_n C 0 dJ6_bitCount_0f7a4_48 rfl rfl ?_
  refine ok_bipush C (v := 63) dJ6_bitCount_0f7a4_49 (by decide) ?_
  refine ok_iand C dJ6_bitCount_0f7a4_51 ?_
  exact ok_iret C rfl rfl dJ6_bitCount_0f7a4_52 h
theorem cM_J6_bitCount_0f7a4 {l : Launch} {Ω : Wm} (hk : Hk Ω kM) : CT_J6_bitCount_0f7a4 l Ω := mM_J6_bitCount_0f7a4 hk v_J6_bitCount_0f7a4
theorem c_J7_fill_53178 {l : Launch} {Ω : Wm} (hk : Hk Ω kD) : CT_J7_fill_53178 l Ω := m_J7_fill_53178 hk  v_J7_fill_53178
theorem c_J7_rangeCheck_23922 {l : Launch} {Ω : Wm} (hk : Hk Ω kD) : CT_J7_rangeCheck_23922 l Ω := m_J7_rangeCheck_23922 hk  (by intros; assumption)
theorem c_J7_fill_fda19 {l : Launch} {Ω : Wm} (hk : Hk Ω kD) : CT_J7_fill_fda19 l Ω := m_J7_fill_fda19 hk (c_J7_rangeCheck_23922 hk) v_J7_fill_fda19
theorem c_J7_fill_bad5a {l : Launch} {Ω : Wm} (hk : Hk Ω kD) : CT_J7_fill_bad5a l Ω := m_J7_fill_bad5a hk (c_J7_rangeCheck_23922 hk) v_J7_fill_bad5a
theorem c_J7_fill_d0a16 {l : Launch} {Ω : Wm} (hk : Hk Ω kD) : CT_J7_fill_d0a16 l Ω := m_J7_fill_d0a16 hk  v_J7_fill_d0a16
theorem c_J6_bitCount_0f7a4 {l : Launch} {Ω : Wm} (hk : Hk Ω kD) : CT_J6_bitCount_0f7a4 l Ω := m_J6_bitCount_0f7a4 hk  v_J6_bitCount_0f7a4
theorem c_J13_bitCount_95d88 {l : Launch} {Ω : Wm} (hk : Hk Ω kD) : CT_J13_bitCount_95d88 l Ω := m_J13_bitCount_95d88 hk  v_J13_bitCount_95d88
theorem c_X0_clear {l : Launch} {Ω : Wm} (hk : Hk Ω kD) : CT_X0_clear l Ω := m_X0_clear hk (c_J7_fill_d0a16 hk) v_X0_clear
theorem c_X0_clearRow {l : Launch} {Ω : Wm} (hk : Hk Ω kD) : CT_X0_clearRow l Ω := m_X0_clearRow hk (c_J7_fill_bad5a hk) v_X0_clearRow
theorem c_X0_has {l : Launch} {Ω : Wm} (hk : Hk Ω kD) : CT_X0_has l Ω := m_X0_has hk  v_X0_has
theorem c_X0_put {l : Launch} {Ω : Wm} (hk : Hk Ω kD) : CT_X0_put l Ω := m_X0_put hk  v_X0_put
theorem c_X0_join {l : Launch} {Ω : Wm} (hk : Hk Ω kD) : CT_X0_join l Ω := m_X0_join hk  v_X0_join
theorem c_X0_sizeInCommon {l : Launch} {Ω : Wm} (hk : Hk Ω kD) : CT_X0_sizeInCommon l Ω := m_X0_sizeInCommon hk (c_J13_bitCount_95d88 hk) v_X0_sizeInCommon
theorem c_X0_size {l : Launch} {Ω : Wm} (hk : Hk Ω kD) : CT_X0_size l Ω := m_X0_size hk (c_X0_sizeInCommon hk) v_X0_size
theorem c_X0_rowsWith {l : Launch} {Ω : Wm} (hk : Hk Ω kD) : CT_X0_rowsWith l Ω := m_X0_rowsWith hk (c_X0_has hk) v_X0_rowsWith
theorem c_X4_start {l : Launch} {Ω : Wm} (hk : Hk Ω kD) : CT_X4_start l Ω := m_X4_start hk (c_J7_fill_53178 hk) v_X4_start
theorem c_X4_putOctet {l : Launch} {Ω : Wm} (hk : Hk Ω kD) : CT_X4_putOctet l Ω := m_X4_putOctet hk  v_X4_putOctet
theorem c_X4_putInt {l : Launch} {Ω : Wm} (hk : Hk Ω kD) : CT_X4_putInt l Ω := m_X4_putInt hk (c_X4_putOctet hk) v_X4_putInt
theorem c_X4_putLong {l : Launch} {Ω : Wm} (hk : Hk Ω kD) : CT_X4_putLong l Ω := m_X4_putLong hk (c_X4_putInt hk) (by intros; assumption)
theorem c_X4_turned {l : Launch} {Ω : Wm} (hk : Hk Ω kD) : CT_X4_turned l Ω := m_X4_turned hk  (by intros; assumption)
theorem c_X4_fillSchedule {l : Launch} {Ω : Wm} (hk : Hk Ω kD) : CT_X4_fillSchedule l Ω := m_X4_fillSchedule hk (c_X4_turned hk) v_X4_fillSchedule
theorem c_X4_mixSchedule {l : Launch} {Ω : Wm} (hk : Hk Ω kD) : CT_X4_mixSchedule l Ω := m_X4_mixSchedule hk (c_X4_turned hk) v_X4_mixSchedule
theorem c_X4_finishInto {l : Launch} {Ω : Wm} (hk : Hk Ω kD) : CT_X4_finishInto l Ω := m_X4_finishInto hk (c_X4_fillSchedule hk) (c_X4_mixSchedule hk) (c_X4_putOctet hk) v_X4_finishInto
theorem c_X6_clear {l : Launch} {Ω : Wm} (hk : Hk Ω kD) : CT_X6_clear l Ω := m_X6_clear hk (c_J7_fill_53178 hk) (by intros; assumption)
theorem c_X6_isFull {l : Launch} {Ω : Wm} (hk : Hk Ω kD) : CT_X6_isFull l Ω := m_X6_isFull hk  (by intros; assumption)
theorem c_X6_join {l : Launch} {Ω : Wm} (hk : Hk Ω kD) : CT_X6_join l Ω := m_X6_join hk  (by intros; assumption)
theorem c_X6_firstTo {l : Launch} {Ω : Wm} (hk : Hk Ω kD) : CT_X6_firstTo l Ω := m_X6_firstTo hk  (by intros; assumption)
theorem c_X6_firstAmount {l : Launch} {Ω : Wm} (hk : Hk Ω kD) : CT_X6_firstAmount l Ω := m_X6_firstAmount hk  (by intros; assumption)
theorem c_X6_dropFirst {l : Launch} {Ω : Wm} (hk : Hk Ω kD) : CT_X6_dropFirst l Ω := m_X6_dropFirst hk  (by intros; assumption)
theorem c_X6_lengthOfAll {l : Launch} {Ω : Wm} (hk : Hk Ω kD) : CT_X6_lengthOfAll l Ω := m_X6_lengthOfAll hk  v_X6_lengthOfAll
theorem c_X2_clear {l : Launch} {Ω : Wm} (hk : Hk Ω kD) : CT_X2_clear l Ω := m_X2_clear hk (c_X0_clear hk) (by intros; assumption)
theorem c_X2_isFull {l : Launch} {Ω : Wm} (hk : Hk Ω kD) : CT_X2_isFull l Ω := m_X2_isFull hk  (by intros; assumption)
theorem c_X2_open {l : Launch} {Ω : Wm} (hk : Hk Ω kD) : CT_X2_open l Ω := m_X2_open hk  (by intros; assumption)
theorem c_X2_addTransaction {l : Launch} {Ω : Wm} (hk : Hk Ω kD) : CT_X2_addTransaction l Ω := m_X2_addTransaction hk  (by intros; assumption)
theorem c_X2_hashWord {l : Launch} {Ω : Wm} (hk : Hk Ω kD) : CT_X2_hashWord l Ω := m_X2_hashWord hk  (by intros; assumption)
theorem c_X2_putParentHash {l : Launch} {Ω : Wm} (hk : Hk Ω kD) : CT_X2_putParentHash l Ω := m_X2_putParentHash hk (c_X2_hashWord hk) (c_X4_putInt hk) v_X2_putParentHash
theorem c_X2_close {l : Launch} {Ω : Wm} (hk : Hk Ω kD) : CT_X2_close l Ω := m_X2_close hk (c_X2_putParentHash hk) (c_X4_finishInto hk) (c_X4_putInt hk) (c_X4_putLong hk) (c_X4_putOctet hk) (c_X4_start hk) v_X2_close
theorem c_X2_hasOneOf {l : Launch} {Ω : Wm} (hk : Hk Ω kD) : CT_X2_hasOneOf l Ω := m_X2_hasOneOf hk  v_X2_hasOneOf
theorem c_X3_clear {l : Launch} {Ω : Wm} (hk : Hk Ω kD) : CT_X3_clear l Ω := m_X3_clear hk (c_J7_fill_53178 hk) (by intros; assumption)
theorem c_X3_countForks {l : Launch} {Ω : Wm} (hk : Hk Ω kD) : CT_X3_countForks l Ω := m_X3_countForks hk  (by intros; assumption)
theorem c_X3_findAncestors {l : Launch} {Ω : Wm} (hk : Hk Ω kD) : CT_X3_findAncestors l Ω := m_X3_findAncestors hk (c_X0_clearRow hk) (c_X0_join hk) (c_X0_put hk) v_X3_findAncestors
theorem c_X7_isMost {l : Launch} {Ω : Wm} (hk : Hk Ω kD) : CT_X7_isMost l Ω := m_X7_isMost hk  (by intros; assumption)
theorem c_X3_stronglySeesMostOf {l : Launch} {Ω : Wm} (hk : Hk Ω kD) : CT_X3_stronglySeesMostOf l Ω := m_X3_stronglySeesMostOf hk (c_X7_isMost hk) (c_X0_has hk) (c_J6_bitCount_0f7a4 hk) v_X3_stronglySeesMostOf
theorem c_X3_findRound {l : Launch} {Ω : Wm} (hk : Hk Ω kD) : CT_X3_findRound l Ω := m_X3_findRound hk (c_X3_stronglySeesMostOf hk) v_X3_findRound
theorem c_X3_countAncestorsByCreator {l : Launch} {Ω : Wm} (hk : Hk Ω kD) : CT_X3_countAncestorsByCreator l Ω := m_X3_countAncestorsByCreator hk (c_X0_has hk) (c_J7_fill_53178 hk) v_X3_countAncestorsByCreator
theorem c_X3_isForker {l : Launch} {Ω : Wm} (hk : Hk Ω kD) : CT_X3_isForker l Ω := m_X3_isForker hk  (by intros; assumption)
theorem c_X3_findSeen {l : Launch} {Ω : Wm} (hk : Hk Ω kD) : CT_X3_findSeen l Ω := m_X3_findSeen hk (c_X0_clearRow hk) (c_X0_has hk) (c_X0_put hk) (c_X3_countAncestorsByCreator hk) (c_X3_isForker hk) v_X3_findSeen
theorem c_X3_findStronglySeen {l : Launch} {Ω : Wm} (hk : Hk Ω kD) : CT_X3_findStronglySeen l Ω := m_X3_findStronglySeen hk (c_X7_isMost hk) (c_X0_clear hk) (c_X0_clearRow hk) (c_X0_has hk) (c_X0_join hk) (c_X0_put hk) (c_X0_rowsWith hk) v_X3_findStronglySeen
theorem c_X3_take {l : Launch} {Ω : Wm} (hk : Hk Ω kD) : CT_X3_take l Ω := m_X3_take hk (c_X3_countForks hk) (c_X3_findAncestors hk) (c_X3_findRound hk) (c_X3_findSeen hk) (c_X3_findStronglySeen hk) v_X3_take
theorem c_X1_clear {l : Launch} {Ω : Wm} (hk : Hk Ω kD) : CT_X1_clear l Ω := m_X1_clear hk  (by intros; assumption)
theorem c_X1_isYes {l : Launch} {Ω : Wm} (hk : Hk Ω kD) : CT_X1_isYes l Ω := m_X1_isYes hk (c_X0_has hk) (by intros; assumption)
theorem c_X1_decides {l : Launch} {Ω : Wm} (hk : Hk Ω kD) : CT_X1_decides l Ω := m_X1_decides hk (c_X0_has hk) (by intros; assumption)
theorem c_X1_write {l : Launch} {Ω : Wm} (hk : Hk Ω kD) : CT_X1_write l Ω := m_X1_write hk (c_X0_put hk) (by intros; assumption)
theorem c_X1_castVote {l : Launch} {Ω : Wm} (hk : Hk Ω kD) : CT_X1_castVote l Ω := m_X1_castVote hk (c_X7_isMost hk) (c_X0_has hk) (c_X0_size hk) (c_X0_sizeInCommon hk) (c_X1_write hk) (c_X2_hashWord hk) v_X1_castVote
theorem c_X1_findElectors {l : Launch} {Ω : Wm} (hk : Hk Ω kD) : CT_X1_findElectors l Ω := m_X1_findElectors hk (c_X0_clearRow hk) (c_X0_has hk) (c_X0_put hk) v_X1_findElectors
theorem c_X1_take {l : Launch} {Ω : Wm} (hk : Hk Ω kD) : CT_X1_take l Ω := m_X1_take hk (c_X0_clearRow hk) (c_X1_castVote hk) (c_X1_findElectors hk) v_X1_take
theorem c_X5_pay {l : Launch} {Ω : Wm} (hk : Hk Ω kD) : CT_X5_pay l Ω := m_X5_pay hk  (by intros; assumption)
theorem c_X5_findBalances {l : Launch} {Ω : Wm} (hk : Hk Ω kD) : CT_X5_findBalances l Ω := m_X5_findBalances hk (c_X5_pay hk) (c_J7_fill_53178 hk) (c_J7_fill_fda19 hk) v_X5_findBalances
theorem c_X5_holds {l : Launch} {Ω : Wm} (hk : Hk Ω kD) : CT_X5_holds l Ω := m_X5_holds hk (c_X0_has hk) (by intros; assumption)
theorem c_X5_deciderOf {l : Launch} {Ω : Wm} (hk : Hk Ω kD) : CT_X5_deciderOf l Ω := m_X5_deciderOf hk (c_X1_decides hk) (c_X5_holds hk) v_X5_deciderOf
theorem c_X5_findFame {l : Launch} {Ω : Wm} (hk : Hk Ω kD) : CT_X5_findFame l Ω := m_X5_findFame hk (c_X1_isYes hk) (c_X5_deciderOf hk) (c_X5_holds hk) (c_J7_fill_53178 hk) v_X5_findFame
theorem c_X5_isBefore {l : Launch} {Ω : Wm} (hk : Hk Ω kD) : CT_X5_isBefore l Ω := m_X5_isBefore hk (c_X2_hashWord hk) v_X5_isBefore
theorem c_X5_insert {l : Launch} {Ω : Wm} (hk : Hk Ω kD) : CT_X5_insert l Ω := m_X5_insert hk (c_X5_isBefore hk) v_X5_insert
theorem c_X5_findOrder {l : Launch} {Ω : Wm} (hk : Hk Ω kD) : CT_X5_findOrder l Ω := m_X5_findOrder hk (c_X5_insert hk) (c_J7_fill_53178 hk) v_X5_findOrder
theorem c_X5_isBelowAllUniques {l : Launch} {Ω : Wm} (hk : Hk Ω kD) : CT_X5_isBelowAllUniques l Ω := m_X5_isBelowAllUniques hk (c_X0_has hk) v_X5_isBelowAllUniques
theorem c_X5_roundReceiving {l : Launch} {Ω : Wm} (hk : Hk Ω kD) : CT_X5_roundReceiving l Ω := m_X5_roundReceiving hk (c_X5_isBelowAllUniques hk) v_X5_roundReceiving
theorem c_X5_firstAbove {l : Launch} {Ω : Wm} (hk : Hk Ω kD) : CT_X5_firstAbove l Ω := m_X5_firstAbove hk (c_X0_has hk) v_X5_firstAbove
theorem c_X5_stampIn {l : Launch} {Ω : Wm} (hk : Hk Ω kD) : CT_X5_stampIn l Ω := m_X5_stampIn hk (c_X5_firstAbove hk) v_X5_stampIn
theorem c_X5_findReceived {l : Launch} {Ω : Wm} (hk : Hk Ω kD) : CT_X5_findReceived l Ω := m_X5_findReceived hk (c_X5_holds hk) (c_X5_roundReceiving hk) (c_X5_stampIn hk) (c_J7_fill_53178 hk) v_X5_findReceived
theorem c_X5_addUnique {l : Launch} {Ω : Wm} (hk : Hk Ω kD) : CT_X5_addUnique l Ω := m_X5_addUnique hk (c_X2_hashWord hk) v_X5_addUnique
theorem c_X5_isOnlyFamousOne {l : Launch} {Ω : Wm} (hk : Hk Ω kD) : CT_X5_isOnlyFamousOne l Ω := m_X5_isOnlyFamousOne hk  v_X5_isOnlyFamousOne
theorem c_X5_findUniques {l : Launch} {Ω : Wm} (hk : Hk Ω kD) : CT_X5_findUniques l Ω := m_X5_findUniques hk (c_X5_addUnique hk) (c_X5_isOnlyFamousOne hk) (c_J7_fill_53178 hk) v_X5_findUniques
theorem c_X5_leastOpenRound {l : Launch} {Ω : Wm} (hk : Hk Ω kD) : CT_X5_leastOpenRound l Ω := m_X5_leastOpenRound hk (c_X5_holds hk) v_X5_leastOpenRound
theorem c_X5_settleRounds {l : Launch} {Ω : Wm} (hk : Hk Ω kD) : CT_X5_settleRounds l Ω := m_X5_settleRounds hk (c_X5_leastOpenRound hk) v_X5_settleRounds
theorem c_X5_findAll {l : Launch} {Ω : Wm} (hk : Hk Ω kD) : CT_X5_findAll l Ω := m_X5_findAll hk (c_X5_findBalances hk) (c_X5_findFame hk) (c_X5_findOrder hk) (c_X5_findReceived hk) (c_X5_findUniques hk) (c_X5_settleRounds hk) v_X5_findAll
theorem c_X7_give {l : Launch} {Ω : Wm} (hk : Hk Ω kD) : CT_X7_give l Ω := m_X7_give hk (c_X0_put hk) (by intros; assumption)
theorem c_X7_makeEvent {l : Launch} {Ω : Wm} (hk : Hk Ω kD) : CT_X7_makeEvent l Ω := m_X7_makeEvent hk (c_X1_take hk) (c_X2_addTransaction hk) (c_X2_close hk) (c_X2_open hk) (c_X3_take hk) (c_X6_dropFirst hk) (c_X6_firstAmount hk) (c_X6_firstTo hk) v_X7_makeEvent
theorem c_X7_startAnew {l : Launch} {Ω : Wm} (hk : Hk Ω kD) : CT_X7_startAnew l Ω := m_X7_startAnew hk (c_X7_give hk) (c_X7_makeEvent hk) (c_X1_clear hk) (c_X2_clear hk) (c_X3_clear hk) (c_X6_clear hk) v_X7_startAnew
theorem c_X7_freshView {l : Launch} {Ω : Wm} (hk : Hk Ω kD) : CT_X7_freshView l Ω := m_X7_freshView hk (c_X5_findAll hk) (by intros; assumption)
theorem c_X7_isNode {l : Launch} {Ω : Wm} (hk : Hk Ω kD) : CT_X7_isNode l Ω := m_X7_isNode hk  (by intros; assumption)
theorem c_X7_isEvent {l : Launch} {Ω : Wm} (hk : Hk Ω kD) : CT_X7_isEvent l Ω := m_X7_isEvent hk  (by intros; assumption)
theorem c_X7_isHeld {l : Launch} {Ω : Wm} (hk : Hk Ω kD) : CT_X7_isHeld l Ω := m_X7_isHeld hk (c_X7_isEvent hk) (c_X0_has hk) (by intros; assumption)
theorem c_X7_begin {l : Launch} {Ω : Wm} (hk : Hk Ω kD) (hst : l.stackTraces = false) : CT_X7_begin l Ω := m_X7_begin hk hst (c_X7_startAnew hk) (by intros; assumption)
theorem c_X7_submit {l : Launch} {Ω : Wm} (hk : Hk Ω kD) (hst : l.stackTraces = false) : CT_X7_submit l Ω := m_X7_submit hk hst (c_X7_isNode hk) (c_X6_isFull hk) (c_X6_join hk) (by intros; assumption)
theorem c_X7_sync {l : Launch} {Ω : Wm} (hk : Hk Ω kD) (hst : l.stackTraces = false) : CT_X7_sync l Ω := m_X7_sync hk hst (c_X7_give hk) (c_X7_isNode hk) (c_X7_makeEvent hk) (c_X0_join hk) (c_X2_isFull hk) (by intros; assumption)
theorem c_X7_inject {l : Launch} {Ω : Wm} (hk : Hk Ω kD) (hst : l.stackTraces = false) : CT_X7_inject l Ω := m_X7_inject hk hst (c_X7_give hk) (c_X7_isHeld hk) (c_X7_isNode hk) (c_X7_makeEvent hk) (c_X2_hasOneOf hk) (c_X2_isFull hk) (by intros; assumption)
theorem c_X7_event {l : Launch} {Ω : Wm} (hk : Hk Ω kD) (hst : l.stackTraces = false) : CT_X7_event l Ω := m_X7_event hk hst (c_X7_isEvent hk) (c_X0_rowsWith hk) (c_X0_size hk) (by intros; assumption)
theorem c_X7_hash {l : Launch} {Ω : Wm} (hk : Hk Ω kD) (hst : l.stackTraces = false) : CT_X7_hash l Ω := m_X7_hash hk hst (c_X7_isEvent hk) (c_X2_hashWord hk) (by intros; assumption)
theorem c_X7_sees {l : Launch} {Ω : Wm} (hk : Hk Ω kD) (hst : l.stackTraces = false) : CT_X7_sees l Ω := m_X7_sees hk hst (c_X7_isEvent hk) (c_X0_has hk) (by intros; assumption)
theorem c_X7_vote {l : Launch} {Ω : Wm} (hk : Hk Ω kD) (hst : l.stackTraces = false) : CT_X7_vote l Ω := m_X7_vote hk hst (c_X7_isEvent hk) (c_X1_decides hk) (c_X1_isYes hk) (by intros; assumption)
theorem c_X7_found {l : Launch} {Ω : Wm} (hk : Hk Ω kD) (hst : l.stackTraces = false) : CT_X7_found l Ω := m_X7_found hk hst (c_X7_freshView hk) (c_X7_isEvent hk) (c_X7_isNode hk) (c_X0_has hk) (by intros; assumption)
theorem c_X7_stamp {l : Launch} {Ω : Wm} (hk : Hk Ω kD) (hst : l.stackTraces = false) : CT_X7_stamp l Ω := m_X7_stamp hk hst (c_X7_freshView hk) (c_X7_isEvent hk) (c_X7_isNode hk) (by intros; assumption)
theorem c_X7_order {l : Launch} {Ω : Wm} (hk : Hk Ω kD) (hst : l.stackTraces = false) : CT_X7_order l Ω := m_X7_order hk hst (c_X7_freshView hk) (c_X7_isNode hk) (by intros; assumption)
theorem c_X7_at {l : Launch} {Ω : Wm} (hk : Hk Ω kD) (hst : l.stackTraces = false) : CT_X7_at l Ω := m_X7_at hk hst (c_X7_freshView hk) (c_X7_isNode hk) (by intros; assumption)
theorem c_X7_balance {l : Launch} {Ω : Wm} (hk : Hk Ω kD) (hst : l.stackTraces = false) : CT_X7_balance l Ω := m_X7_balance hk hst (c_X7_freshView hk) (c_X7_isNode hk) (by intros; assumption)
theorem c_X7_count {l : Launch} {Ω : Wm} (hk : Hk Ω kD) (hst : l.stackTraces = false) : CT_X7_count l Ω := m_X7_count hk hst (c_X7_freshView hk) (c_X6_lengthOfAll hk) (by intros; assumption)
theorem c_X8_thrown {l : Launch} {Ω : Wm} (hk : Hk Ω kM) : CT_X8_thrown l Ω := m_X8_thrown hk  (by intros; assumption)
theorem c_X8_in {l : Launch} {Ω : Wm} (hk : Hk Ω kM) : CT_X8_in l Ω := m_X8_in hk  (by intros; assumption)
theorem c_X8_fails {l : Launch} {Ω : Wm} (hk : Hk Ω kM) : CT_X8_fails l Ω := m_X8_fails hk  (by intros; assumption)
theorem c_X8_isNode {l : Launch} {Ω : Wm} (hk : Hk Ω kM) : CT_X8_isNode l Ω := m_X8_isNode hk (c_X8_in hk) (by intros; assumption)
theorem c_X8_isEvent {l : Launch} {Ω : Wm} (hk : Hk Ω kM) : CT_X8_isEvent l Ω := m_X8_isEvent hk (c_X8_in hk) (by intros; assumption)
theorem c_X8_turn {l : Launch} {Ω : Wm} (hk : Hk Ω kM) : CT_X8_turn l Ω := m_X8_turn hk  (by intros; assumption)
theorem c_X8_compress {l : Launch} {Ω : Wm} (hk : Hk Ω kM) : CT_X8_compress l Ω := m_X8_compress hk (c_X8_turn hk) v_X8_compress
theorem c_X8_octet {l : Launch} {Ω : Wm} (hk : Hk Ω kM) : CT_X8_octet l Ω := m_X8_octet hk  (by intros; assumption)
theorem c_X8_four {l : Launch} {Ω : Wm} (hk : Hk Ω kM) : CT_X8_four l Ω := m_X8_four hk (c_X8_octet hk) v_X8_four
theorem c_X8_hash {l : Launch} {Ω : Wm} (hk : Hk Ω kM) : CT_X8_hash l Ω := m_X8_hash hk (c_X8_compress hk) (c_X8_four hk) (c_X8_octet hk) v_X8_hash
theorem c_X8_isSelf {l : Launch} {Ω : Wm} (hk : Hk Ω kM) : CT_X8_isSelf l Ω := m_X8_isSelf hk  v_X8_isSelf
theorem c_X8_isFork {l : Launch} {Ω : Wm} (hk : Hk Ω kM) : CT_X8_isFork l Ω := m_X8_isFork hk (c_X8_isSelf hk) v_X8_isFork
theorem c_X8_isForked {l : Launch} {Ω : Wm} (hk : Hk Ω kM) : CT_X8_isForked l Ω := m_X8_isForked hk (c_X8_isFork hk) v_X8_isForked
theorem c_X8_isMost {l : Launch} {Ω : Wm} (hk : Hk Ω kM) : CT_X8_isMost l Ω := m_X8_isMost hk  (by intros; assumption)
theorem c_X8_sees {l : Launch} {Ω : Wm} (hk : Hk Ω kM) : CT_X8_sees l Ω := m_X8_sees hk  v_X8_sees
theorem c_X8_strongly {l : Launch} {Ω : Wm} (hk : Hk Ω kM) : CT_X8_strongly l Ω := m_X8_strongly hk (c_X8_isMost hk) (c_X8_sees hk) (cM_J6_bitCount_0f7a4 hk) v_X8_strongly
theorem c_X8_make {l : Launch} {Ω : Wm} (hk : Hk Ω kM) : CT_X8_make l Ω := m_X8_make hk (c_X8_hash hk) (c_X8_isForked hk) (c_X8_isMost hk) (c_X8_strongly hk) (cM_J6_bitCount_0f7a4 hk) v_X8_make
theorem c_X8_anew {l : Launch} {Ω : Wm} (hk : Hk Ω kM) : CT_X8_anew l Ω := m_X8_anew hk (c_X8_make hk) v_X8_anew
theorem c_X8_begin {l : Launch} {Ω : Wm} (hk : Hk Ω kM) : CT_X8_begin l Ω := m_X8_begin hk (c_X8_anew hk) (c_X8_fails hk) (c_X8_in hk) (by intros; assumption)
theorem c_X8_voteOf {l : Launch} {Ω : Wm} (hk : Hk Ω kM) : CT_X8_voteOf l Ω := m_X8_voteOf hk (c_X8_isMost hk) (c_X8_sees hk) (c_X8_strongly hk) v_X8_voteOf
theorem c_X8_submit {l : Launch} {Ω : Wm} (hk : Hk Ω kM) : CT_X8_submit l Ω := m_X8_submit hk (c_X8_fails hk) (c_X8_in hk) (c_X8_isNode hk) (by intros; assumption)
theorem c_X8_sync {l : Launch} {Ω : Wm} (hk : Hk Ω kM) : CT_X8_sync l Ω := m_X8_sync hk (c_X8_fails hk) (c_X8_isNode hk) (c_X8_make hk) v_X8_sync
theorem c_X8_holds {l : Launch} {Ω : Wm} (hk : Hk Ω kM) : CT_X8_holds l Ω := m_X8_holds hk (c_X8_isEvent hk) (by intros; assumption)
theorem c_X8_inject {l : Launch} {Ω : Wm} (hk : Hk Ω kM) : CT_X8_inject l Ω := m_X8_inject hk (c_X8_fails hk) (c_X8_holds hk) (c_X8_isNode hk) (c_X8_make hk) v_X8_inject
theorem c_X8_event {l : Launch} {Ω : Wm} (hk : Hk Ω kM) : CT_X8_event l Ω := m_X8_event hk (c_X8_fails hk) (c_X8_in hk) (c_X8_isEvent hk) v_X8_event
theorem c_X8_hash_ {l : Launch} {Ω : Wm} (hk : Hk Ω kM) : CT_X8_hash_ l Ω := m_X8_hash_ hk (c_X8_fails hk) (c_X8_in hk) (c_X8_isEvent hk) (by intros; assumption)
theorem c_X8_sees_ {l : Launch} {Ω : Wm} (hk : Hk Ω kM) : CT_X8_sees_ l Ω := m_X8_sees_ hk (c_X8_fails hk) (c_X8_isEvent hk) (c_X8_sees hk) (c_X8_strongly hk) (by intros; assumption)
theorem c_X8_vote {l : Launch} {Ω : Wm} (hk : Hk Ω kM) : CT_X8_vote l Ω := m_X8_vote hk (c_X8_fails hk) (c_X8_isEvent hk) (c_X8_voteOf hk) (by intros; assumption)
theorem c_X8_comesBefore {l : Launch} {Ω : Wm} (hk : Hk Ω kM) : CT_X8_comesBefore l Ω := m_X8_comesBefore hk  v_X8_comesBefore
theorem c_X8_isUnique {l : Launch} {Ω : Wm} (hk : Hk Ω kM) : CT_X8_isUnique l Ω := m_X8_isUnique hk  (by intros; assumption)
theorem c_X8_receive {l : Launch} {Ω : Wm} (hk : Hk Ω kM) : CT_X8_receive l Ω := m_X8_receive hk (c_X8_comesBefore hk) (c_X8_isUnique hk) v_X8_receive
theorem c_X8_find {l : Launch} {Ω : Wm} (hk : Hk Ω kM) : CT_X8_find l Ω := m_X8_find hk (c_X8_receive hk) (c_X8_voteOf hk) v_X8_find
theorem c_X8_found {l : Launch} {Ω : Wm} (hk : Hk Ω kM) : CT_X8_found l Ω := m_X8_found hk (c_X8_fails hk) (c_X8_find hk) (c_X8_in hk) (c_X8_isEvent hk) (c_X8_isNode hk) (by intros; assumption)
theorem c_X8_stamp {l : Launch} {Ω : Wm} (hk : Hk Ω kM) : CT_X8_stamp l Ω := m_X8_stamp hk (c_X8_fails hk) (c_X8_find hk) (c_X8_isEvent hk) (c_X8_isNode hk) (by intros; assumption)
theorem c_X8_order {l : Launch} {Ω : Wm} (hk : Hk Ω kM) : CT_X8_order l Ω := m_X8_order hk (c_X8_fails hk) (c_X8_find hk) (c_X8_isNode hk) (by intros; assumption)
theorem c_X8_at {l : Launch} {Ω : Wm} (hk : Hk Ω kM) : CT_X8_at l Ω := m_X8_at hk (c_X8_fails hk) (c_X8_find hk) (c_X8_in hk) (c_X8_isNode hk) (by intros; assumption)
theorem c_X8_balance {l : Launch} {Ω : Wm} (hk : Hk Ω kM) : CT_X8_balance l Ω := m_X8_balance hk (c_X8_fails hk) (c_X8_find hk) (c_X8_isNode hk) (by intros; assumption)
theorem c_X8_count {l : Launch} {Ω : Wm} (hk : Hk Ω kM) : CT_X8_count l Ω := m_X8_count hk (c_X8_fails hk) (c_X8_find hk) (c_X8_in hk) (c_X8_isFork hk) v_X8_count
