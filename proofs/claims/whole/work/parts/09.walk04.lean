set_option maxRecDepth 100000 in
set_option maxHeartbeats 4000000 in
theorem w_X8_price {E : tkE} {X : tkX} (hR : x_R X = tkR 3) (G : tkG E X cX8_price 4 RX8 (some .int)) (h : tkH) (a0 : Nat) (a1 : Int32) (a2 : Int32) (k0 : kd a0 = 11) : tkS E X 4 0 0 (tkZi E X) 0 [(0, .ref (e_ad E a0)), (1, .int a1), (2, .int a2)] [] h (f_X8_price h a0 a1 a2) := by
  unfold f_X8_price
  refine s_v (fun _ k => tk_iload_n G dX8_price_0 1 rfl (tk_iconst G dX8_price_1 cI_3 k)) ?_
  refine s_callSI (As := [.int a1, .int 3]) G dX8_price_2 wY_X8_isWithin wM_X8_55 wI_X8_isWithin (tk_rm hR (by decide) (by decide)) (c_X8_isWithin E h a1 3) rfl rfl (Nat.le_of_ble_eq_true rfl) ⟨Nat.zero_le _, Nat.zero_le _⟩ (fun x2 => ?_)
  have hJ17 : ∀ (g17 : tkH), tkS E X 4 0 0 (tkZi E X) 17 [(0, .ref (e_ad E a0))] [] g17 (f_X8_price_J17 a0 g17) := by
    intro g17
    unfold f_X8_price_J17
    refine s_v (fun _ k => tk_aload_n G dX8_price_17 0 rfl (tk_ldc G dX8_price_18 wK_X8_59 k)) ?_
    refine s_callVI (As := [.int (-100001)]) G dX8_price_20 wY_X8_finding wM_X8_60 wI_X8_finding wS_X8_finding (tk_rm hR (by decide) (by decide)) kX8 k0 (by decide) (c_X8_finding E g17 a0 (-100001) k0) rfl rfl (Nat.le_of_ble_eq_true rfl) ⟨Nat.zero_le _, Nat.zero_le _⟩ (fun x20 => ?_)
    exact s_iret G dX8_price_23
  refine s_if_eq (tgt := 17) G dX8_price_5 (by decide) (fun q5 => ?_) (fun q5 => ?_)
  ·
    refine s_sub [0] (al' := [(0, .ref (e_ad E a0))]) rfl ?_
    exact hJ17 _
  ·
    refine s_v (fun _ k => tk_iload_n G dX8_price_8 2 rfl (tk_bipush G dX8_price_9 cB_10 k)) ?_
    refine s_callSI (As := [.int a2, .int 10]) G dX8_price_11 wY_X8_isWithin wM_X8_55 wI_X8_isWithin (tk_rm hR (by decide) (by decide)) (c_X8_isWithin E x2.2 a2 10) rfl rfl (Nat.le_of_ble_eq_true rfl) ⟨Nat.zero_le _, Nat.zero_le _⟩ (fun x11 => ?_)
    refine s_if_ne (tgt := 24) G dX8_price_14 (by decide) (fun q14 => ?_) (fun q14 => ?_)
    ·
      refine s_sub [0] (al' := [(0, .ref (e_ad E a0))]) rfl ?_
      exact hJ17 _
    ·
      refine s_v (fun _ k => tk_aload_n G dX8_price_24 0 rfl (tk_gr G kX8 dX8_price_25 wF_X8_19 k0 gR_8_1 (tk_aload_n G dX8_price_28 0 rfl (tk_gr G kX8 dX8_price_29 wF_X8_10 k0 gR_8_0 k)))) ?_
      refine s_callVV (As := [.ref (e_ad E (fld a0 0))]) G dX8_price_32 wY_X3_keep wM_X8_68 wI_X3_keep wS_X3_keep (tk_rm hR (by decide) (by decide)) kX3 (kF_8_1 k0) (by decide) (c_X3_keep E x11.2 (fld a0 1) (fld a0 0) (kF_8_1 k0) (kF_8_0 k0)) rfl rfl (Nat.le_of_ble_eq_true rfl) ⟨Nat.zero_le _, Nat.zero_le _⟩ (fun x32 => ?_)
      refine s_v (fun _ k => tk_aload_n G dX8_price_35 0 rfl (tk_gr G kX8 dX8_price_36 wF_X8_26 k0 gR_8_2 k)) ?_
      refine s_callVV (As := []) G dX8_price_39 wY_X2_forgetAll wM_X8_139 wI_X2_forgetAll wS_X2_forgetAll (tk_rm hR (by decide) (by decide)) kX2 (kF_8_2 k0) (by decide) (c_X2_forgetAll E x32 (fld a0 2) (kF_8_2 k0)) rfl rfl (Nat.le_of_ble_eq_true rfl) ⟨Nat.zero_le _, Nat.zero_le _⟩ (fun x39 => ?_)
      refine s_v (fun _ k => tk_aload_n G dX8_price_42 0 rfl (tk_gr G kX8 dX8_price_43 wF_X8_10 k0 gR_8_0 (tk_gr G kX0 dX8_price_46 wF_X8_145 (kF_8_0 k0) gR_0_7 (tk_iload_n G dX8_price_49 1 rfl k)))) ?_
      refine s_iald G dX8_price_50 (kF_0_7 (kF_8_0 k0)) (fun v50 => ?_)
      refine s_v (fun _ k => tk_istore_n (al' := [(3, .int v50), (0, .ref (e_ad E a0)), (1, .int a1), (2, .int a2)]) G dX8_price_51 (by decide) rfl (tk_aload_n G dX8_price_52 1 rfl (tk_gr G kX8 dX8_price_53 wF_X8_10 k0 gR_8_0 (tk_gr G kX0 dX8_price_56 wF_X8_145 (kF_8_0 k0) gR_0_7 (tk_iload_n G dX8_price_59 2 rfl (tk_iload_n G dX8_price_60 3 rfl k)))))) ?_
      refine s_iast G dX8_price_61 (kF_0_7 (kF_8_0 k0)) (fun h61 => ?_)
      refine s_v (fun _ k => tk_iload_n G dX8_price_62 0 rfl k) ?_
      exact s_iret G dX8_price_63
theorem c_X8_price (E : tkE) (h : tkH) (a0 : Nat) (a1 : Int32) (a2 : Int32) (k0 : kd a0 = 11) : ∀ x, f_X8_price h a0 a1 a2 = some x → tkM E yX8_price cX8_price 4 (some .int) 3 tkF [.ref (e_ad E a0), .int a1, .int a2] h (some (.int x.1)) x.2 := fun x hx => tkM_of (by decide) (Nat.le_of_ble_eq_true rfl) (fun _ hR G => w_X8_price hR G h a0 a1 a2 k0 x hx)
set_option maxRecDepth 100000 in
set_option maxHeartbeats 4000000 in
theorem w_X8_print {E : tkE} {X : tkX} (hR : x_R X = tkR 3) (G : tkG E X cX8_print 4 RX8 (some .int)) (h : tkH) (a0 : Nat) (a1 : Int32) (a2 : Int32) (k0 : kd a0 = 11) : tkS E X 4 0 0 (tkZi E X) 0 [(0, .ref (e_ad E a0)), (1, .int a1), (2, .int a2)] [] h (f_X8_print h a0 a1 a2) := by
  unfold f_X8_print
  refine s_v (fun _ k => tk_aload_n G dX8_print_0 0 rfl (tk_gr G kX8 dX8_print_1 wF_X8_10 k0 gR_8_0 (tk_iload_n G dX8_print_4 1 rfl k))) ?_
  refine s_callVI (As := [.int a1]) G dX8_print_5 wY_X0_hasTale wM_X8_76 wI_X0_hasTale wS_X0_hasTale (tk_rm hR (by decide) (by decide)) kX0 (kF_8_0 k0) (by decide) (c_X0_hasTale E h (fld a0 0) a1 (kF_8_0 k0)) rfl rfl (Nat.le_of_ble_eq_true rfl) ⟨Nat.zero_le _, Nat.zero_le _⟩ (fun x5 => ?_)
  have hJ27 : ∀ (g27 : tkH), tkS E X 4 0 0 (tkZi E X) 27 [(0, .ref (e_ad E a0))] [] g27 (f_X8_print_J27 a0 g27) := by
    intro g27
    unfold f_X8_print_J27
    refine s_v (fun _ k => tk_aload_n G dX8_print_27 0 rfl (tk_ldc G dX8_print_28 wK_X8_59 k)) ?_
    refine s_callVI (As := [.int (-100001)]) G dX8_print_30 wY_X8_finding wM_X8_60 wI_X8_finding wS_X8_finding (tk_rm hR (by decide) (by decide)) kX8 k0 (by decide) (c_X8_finding E g27 a0 (-100001) k0) rfl rfl (Nat.le_of_ble_eq_true rfl) ⟨Nat.zero_le _, Nat.zero_le _⟩ (fun x30 => ?_)
    exact s_iret G dX8_print_33
  refine s_if_eq (tgt := 27) G dX8_print_8 (by decide) (fun q8 => ?_) (fun q8 => ?_)
  ·
    refine s_sub [0] (al' := [(0, .ref (e_ad E a0))]) rfl ?_
    exact hJ27 _
  ·
    refine s_v (fun _ k => tk_iload_n G dX8_print_11 2 rfl (tk_iconst G dX8_print_12 cI_m1 k)) ?_
    have hJ34 : ∀ (g34 : tkH), tkS E X 4 0 0 (tkZi E X) 34 [(0, .ref (e_ad E a0)), (1, .int a1), (2, .int a2)] [] g34 (f_X8_print_J34 a0 a1 a2 g34) := by
      intro g34
      unfold f_X8_print_J34
      refine s_v (fun _ k => tk_aload_n G dX8_print_34 0 rfl (tk_gr G kX8 dX8_print_35 wF_X8_10 k0 gR_8_0 (tk_gr G kX0 dX8_print_38 wF_X8_80 (kF_8_0 k0) gR_0_1 (tk_iload_n G dX8_print_41 1 rfl k)))) ?_
      refine s_iald G dX8_print_42 (kF_0_1 (kF_8_0 k0)) (fun v42 => ?_)
      refine s_v (fun _ k => tk_iconst G dX8_print_43 cI_3 k) ?_
      refine s_icmp_eq (tgt := 54) G dX8_print_44 (by decide) (fun q44 => ?_) (fun q44 => ?_)
      ·
        refine s_v (fun _ k => tk_aload_n G dX8_print_54 0 rfl (tk_gr G kX8 dX8_print_55 wF_X8_10 k0 gR_8_0 (tk_iload_n G dX8_print_58 2 rfl (tk_iload_n G dX8_print_59 1 rfl k)))) ?_
        refine s_callVI (As := [.int a2, .int a1]) G dX8_print_60 wY_X0_printsLeadTo wM_X8_135 wI_X0_printsLeadTo wS_X0_printsLeadTo (tk_rm hR (by decide) (by decide)) kX0 (kF_8_0 k0) (by decide) (c_X0_printsLeadTo E g34 (fld a0 0) a2 a1 (kF_8_0 k0)) rfl rfl (Nat.le_of_ble_eq_true rfl) ⟨Nat.zero_le _, Nat.zero_le _⟩ (fun x60 => ?_)
        refine s_if_eq (tgt := 73) G dX8_print_63 (by decide) (fun q63 => ?_) (fun q63 => ?_)
        ·
          refine s_v (fun _ k => tk_aload_n G dX8_print_73 0 rfl (tk_gr G kX8 dX8_print_74 wF_X8_19 k0 gR_8_1 (tk_aload_n G dX8_print_77 0 rfl (tk_gr G kX8 dX8_print_78 wF_X8_10 k0 gR_8_0 k)))) ?_
          refine s_callVV (As := [.ref (e_ad E (fld a0 0))]) G dX8_print_81 wY_X3_keep wM_X8_68 wI_X3_keep wS_X3_keep (tk_rm hR (by decide) (by decide)) kX3 (kF_8_1 k0) (by decide) (c_X3_keep E x60.2 (fld a0 1) (fld a0 0) (kF_8_1 k0) (kF_8_0 k0)) rfl rfl (Nat.le_of_ble_eq_true rfl) ⟨Nat.zero_le _, Nat.zero_le _⟩ (fun x81 => ?_)
          refine s_v (fun _ k => tk_aload_n G dX8_print_84 0 rfl (tk_gr G kX8 dX8_print_85 wF_X8_10 k0 gR_8_0 (tk_gr G kX0 dX8_print_88 wF_X8_132 (kF_8_0 k0) gR_0_4 (tk_iload_n G dX8_print_91 1 rfl k)))) ?_
          refine s_iald G dX8_print_92 (kF_0_4 (kF_8_0 k0)) (fun v92 => ?_)
          refine s_v (fun _ k => tk_istore_n (al' := [(3, .int v92), (0, .ref (e_ad E a0)), (1, .int a1), (2, .int a2)]) G dX8_print_93 (by decide) rfl (tk_aload_n G dX8_print_94 1 rfl (tk_gr G kX8 dX8_print_95 wF_X8_10 k0 gR_8_0 (tk_gr G kX0 dX8_print_98 wF_X8_132 (kF_8_0 k0) gR_0_4 (tk_iload_n G dX8_print_101 2 rfl (tk_iload_n G dX8_print_102 3 rfl k)))))) ?_
          refine s_iast G dX8_print_103 (kF_0_4 (kF_8_0 k0)) (fun h103 => ?_)
          refine s_v (fun _ k => tk_iload_n G dX8_print_104 0 rfl k) ?_
          exact s_iret G dX8_print_105
        ·
          refine s_v (fun _ k => tk_aload_n G dX8_print_66 0 rfl (tk_ldc G dX8_print_67 wK_X8_138 k)) ?_
          refine s_callVI (As := [.int (-100007)]) G dX8_print_69 wY_X8_finding wM_X8_60 wI_X8_finding wS_X8_finding (tk_rm hR (by decide) (by decide)) kX8 k0 (by decide) (c_X8_finding E x60.2 a0 (-100007) k0) rfl rfl (Nat.le_of_ble_eq_true rfl) ⟨Nat.zero_le _, Nat.zero_le _⟩ (fun x69 => ?_)
          exact s_iret G dX8_print_72
      ·
        refine s_v (fun _ k => tk_aload_n G dX8_print_47 0 rfl (tk_ldc G dX8_print_48 wK_X8_87 k)) ?_
        refine s_callVI (As := [.int (-100004)]) G dX8_print_50 wY_X8_finding wM_X8_60 wI_X8_finding wS_X8_finding (tk_rm hR (by decide) (by decide)) kX8 k0 (by decide) (c_X8_finding E g34 a0 (-100004) k0) rfl rfl (Nat.le_of_ble_eq_true rfl) ⟨Nat.zero_le _, Nat.zero_le _⟩ (fun x50 => ?_)
        exact s_iret G dX8_print_53
    refine s_icmp_eq (tgt := 34) G dX8_print_13 (by decide) (fun q13 => ?_) (fun q13 => ?_)
    ·
      exact hJ34 _
    ·
      refine s_v (fun _ k => tk_aload_n G dX8_print_16 0 rfl (tk_gr G kX8 dX8_print_17 wF_X8_10 k0 gR_8_0 (tk_iload_n G dX8_print_20 2 rfl k))) ?_
      refine s_callVI (As := [.int a2]) G dX8_print_21 wY_X0_hasTale wM_X8_76 wI_X0_hasTale wS_X0_hasTale (tk_rm hR (by decide) (by decide)) kX0 (kF_8_0 k0) (by decide) (c_X0_hasTale E x5.2 (fld a0 0) a2 (kF_8_0 k0)) rfl rfl (Nat.le_of_ble_eq_true rfl) ⟨Nat.zero_le _, Nat.zero_le _⟩ (fun x21 => ?_)
      refine s_if_ne (tgt := 34) G dX8_print_24 (by decide) (fun q24 => ?_) (fun q24 => ?_)
      ·
        refine s_sub [0] (al' := [(0, .ref (e_ad E a0))]) rfl ?_
        exact hJ27 _
      ·
        exact hJ34 _
theorem c_X8_print (E : tkE) (h : tkH) (a0 : Nat) (a1 : Int32) (a2 : Int32) (k0 : kd a0 = 11) : ∀ x, f_X8_print h a0 a1 a2 = some x → tkM E yX8_print cX8_print 4 (some .int) 3 tkF [.ref (e_ad E a0), .int a1, .int a2] h (some (.int x.1)) x.2 := fun x hx => tkM_of (by decide) (Nat.le_of_ble_eq_true rfl) (fun _ hR G => w_X8_print hR G h a0 a1 a2 k0 x hx)
set_option maxRecDepth 100000 in
set_option maxHeartbeats 4000000 in
theorem w_X8_recode {E : tkE} {X : tkX} (hR : x_R X = tkR 3) (G : tkG E X cX8_recode 3 RX8 (some .int)) (h : tkH) (a0 : Nat) (a1 : Int32) (a2 : Int32) (k0 : kd a0 = 11) : tkS E X 3 0 0 (tkZi E X) 0 [(0, .ref (e_ad E a0)), (1, .int a1), (2, .int a2)] [] h (f_X8_recode h a0 a1 a2) := by
  unfold f_X8_recode
  refine s_v (fun _ k => tk_iload_n G dX8_recode_0 1 rfl (tk_bipush G dX8_recode_1 cB_16 k)) ?_
  refine s_callSI (As := [.int a1, .int 16]) G dX8_recode_3 wY_X8_isWithin wM_X8_55 wI_X8_isWithin (tk_rm hR (by decide) (by decide)) (c_X8_isWithin E h a1 16) rfl rfl (Nat.le_of_ble_eq_true rfl) ⟨Nat.zero_le _, Nat.zero_le _⟩ (fun x3 => ?_)
  have hJ18 : ∀ (g18 : tkH), tkS E X 3 0 0 (tkZi E X) 18 [(0, .ref (e_ad E a0))] [] g18 (f_X8_recode_J18 a0 g18) := by
    intro g18
    unfold f_X8_recode_J18
    refine s_v (fun _ k => tk_aload_n G dX8_recode_18 0 rfl (tk_ldc G dX8_recode_19 wK_X8_59 k)) ?_
    refine s_callVI (As := [.int (-100001)]) G dX8_recode_21 wY_X8_finding wM_X8_60 wI_X8_finding wS_X8_finding (tk_rm hR (by decide) (by decide)) kX8 k0 (by decide) (c_X8_finding E g18 a0 (-100001) k0) rfl rfl (Nat.le_of_ble_eq_true rfl) ⟨Nat.zero_le _, Nat.zero_le _⟩ (fun x21 => ?_)
    exact s_iret G dX8_recode_24
  refine s_if_eq (tgt := 18) G dX8_recode_6 (by decide) (fun q6 => ?_) (fun q6 => ?_)
  ·
    refine s_sub [0] (al' := [(0, .ref (e_ad E a0))]) rfl ?_
    exact hJ18 _
  ·
    refine s_v (fun _ k => tk_iload_n G dX8_recode_9 2 rfl (tk_bipush G dX8_recode_10 cB_16 k)) ?_
    refine s_callSI (As := [.int a2, .int 16]) G dX8_recode_12 wY_X8_isWithin wM_X8_55 wI_X8_isWithin (tk_rm hR (by decide) (by decide)) (c_X8_isWithin E x3.2 a2 16) rfl rfl (Nat.le_of_ble_eq_true rfl) ⟨Nat.zero_le _, Nat.zero_le _⟩ (fun x12 => ?_)
    refine s_if_ne (tgt := 25) G dX8_recode_15 (by decide) (fun q15 => ?_) (fun q15 => ?_)
    ·
      refine s_sub [0] (al' := [(0, .ref (e_ad E a0))]) rfl ?_
      exact hJ18 _
    ·
      refine s_v (fun _ k => tk_aload_n G dX8_recode_25 0 rfl (tk_gr G kX8 dX8_recode_26 wF_X8_19 k0 gR_8_1 (tk_aload_n G dX8_recode_29 0 rfl (tk_gr G kX8 dX8_recode_30 wF_X8_10 k0 gR_8_0 k)))) ?_
      refine s_callVV (As := [.ref (e_ad E (fld a0 0))]) G dX8_recode_33 wY_X3_keep wM_X8_68 wI_X3_keep wS_X3_keep (tk_rm hR (by decide) (by decide)) kX3 (kF_8_1 k0) (by decide) (c_X3_keep E x12.2 (fld a0 1) (fld a0 0) (kF_8_1 k0) (kF_8_0 k0)) rfl rfl (Nat.le_of_ble_eq_true rfl) ⟨Nat.zero_le _, Nat.zero_le _⟩ (fun x33 => ?_)
      refine s_v (fun _ k => tk_aload_n G dX8_recode_36 0 rfl (tk_gr G kX8 dX8_recode_37 wF_X8_26 k0 gR_8_2 k)) ?_
      refine s_callVV (As := []) G dX8_recode_40 wY_X2_forgetAll wM_X8_139 wI_X2_forgetAll wS_X2_forgetAll (tk_rm hR (by decide) (by decide)) kX2 (kF_8_2 k0) (by decide) (c_X2_forgetAll E x33 (fld a0 2) (kF_8_2 k0)) rfl rfl (Nat.le_of_ble_eq_true rfl) ⟨Nat.zero_le _, Nat.zero_le _⟩ (fun x40 => ?_)
      refine s_v (fun _ k => tk_aload_n G dX8_recode_43 0 rfl (tk_gr G kX8 dX8_recode_44 wF_X8_10 k0 gR_8_0 (tk_iload_n G dX8_recode_47 1 rfl (tk_iload_n G dX8_recode_48 2 rfl k)))) ?_
      refine s_callVI (As := [.int a1, .int a2]) G dX8_recode_49 wY_X0_changeMotif wM_X8_142 wI_X0_changeMotif wS_X0_changeMotif (tk_rm hR (by decide) (by decide)) kX0 (kF_8_0 k0) (by decide) (c_X0_changeMotif E x40 (fld a0 0) a1 a2 (kF_8_0 k0)) rfl rfl (Nat.le_of_ble_eq_true rfl) ⟨Nat.zero_le _, Nat.zero_le _⟩ (fun x49 => ?_)
      exact s_iret G dX8_recode_52
theorem c_X8_recode (E : tkE) (h : tkH) (a0 : Nat) (a1 : Int32) (a2 : Int32) (k0 : kd a0 = 11) : ∀ x, f_X8_recode h a0 a1 a2 = some x → tkM E yX8_recode cX8_recode 3 (some .int) 3 tkF [.ref (e_ad E a0), .int a1, .int a2] h (some (.int x.1)) x.2 := fun x hx => tkM_of (by decide) (Nat.le_of_ble_eq_true rfl) (fun _ hR G => w_X8_recode hR G h a0 a1 a2 k0 x hx)
set_option maxRecDepth 100000 in
set_option maxHeartbeats 4000000 in
theorem w_X8_step {E : tkE} {X : tkX} (hR : x_R X = tkR 3) (G : tkG E X cX8_step 5 RX8 (some .int)) (h : tkH) (a0 : Nat) (a1 : Int32) (a2 : Int32) (a3 : Int32) (a4 : Int32) (k0 : kd a0 = 11) : tkS E X 5 0 0 (tkZi E X) 0 [(0, .ref (e_ad E a0)), (1, .int a1), (2, .int a2), (3, .int a3), (4, .int a4)] [] h (f_X8_step h a0 a1 a2 a3 a4) := by
  unfold f_X8_step
  refine s_v (fun _ k => tk_aload_n G dX8_step_0 0 rfl (tk_gr G kX8 dX8_step_1 wF_X8_10 k0 gR_8_0 (tk_iload_n G dX8_step_4 1 rfl k))) ?_
  refine s_callVI (As := [.int a1]) G dX8_step_5 wY_X0_hasTale wM_X8_76 wI_X0_hasTale wS_X0_hasTale (tk_rm hR (by decide) (by decide)) kX0 (kF_8_0 k0) (by decide) (c_X0_hasTale E h (fld a0 0) a1 (kF_8_0 k0)) rfl rfl (Nat.le_of_ble_eq_true rfl) ⟨Nat.zero_le _, Nat.zero_le _⟩ (fun x5 => ?_)
  have hJ21 : ∀ (g21 : tkH), tkS E X 5 0 0 (tkZi E X) 21 [(0, .ref (e_ad E a0))] [] g21 (f_X8_step_J21 a0 g21) := by
    intro g21
    unfold f_X8_step_J21
    refine s_v (fun _ k => tk_aload_n G dX8_step_21 0 rfl (tk_ldc G dX8_step_22 wK_X8_59 k)) ?_
    refine s_callVI (As := [.int (-100001)]) G dX8_step_24 wY_X8_finding wM_X8_60 wI_X8_finding wS_X8_finding (tk_rm hR (by decide) (by decide)) kX8 k0 (by decide) (c_X8_finding E g21 a0 (-100001) k0) rfl rfl (Nat.le_of_ble_eq_true rfl) ⟨Nat.zero_le _, Nat.zero_le _⟩ (fun x24 => ?_)
    exact s_iret G dX8_step_27
  refine s_if_eq (tgt := 21) G dX8_step_8 (by decide) (fun q8 => ?_) (fun q8 => ?_)
  ·
    refine s_sub [0] (al' := [(0, .ref (e_ad E a0))]) rfl ?_
    exact hJ21 _
  ·
    refine s_v (fun _ k => tk_iload_n G dX8_step_11 2 rfl (tk_iload_n G dX8_step_12 3 rfl (tk_iload G dX8_step_13 4 rfl k))) ?_
    refine s_callSI (As := [.int a2, .int a3, .int a4]) G dX8_step_15 wY_X8_isStep wM_X8_88 wI_X8_isStep (tk_rm hR (by decide) (by decide)) (c_X8_isStep E x5.2 a2 a3 a4) rfl rfl (Nat.le_of_ble_eq_true rfl) ⟨Nat.zero_le _, Nat.zero_le _⟩ (fun x15 => ?_)
    refine s_if_ne (tgt := 28) G dX8_step_18 (by decide) (fun q18 => ?_) (fun q18 => ?_)
    ·
      refine s_sub [0] (al' := [(0, .ref (e_ad E a0))]) rfl ?_
      exact hJ21 _
    ·
      refine s_v (fun _ k => tk_aload_n G dX8_step_28 0 rfl (tk_gr G kX8 dX8_step_29 wF_X8_10 k0 gR_8_0 (tk_gr G kX0 dX8_step_32 wF_X8_92 (kF_8_0 k0) gR_0_5 (tk_iload_n G dX8_step_35 1 rfl k)))) ?_
      refine s_iald G dX8_step_36 (kF_0_5 (kF_8_0 k0)) (fun v36 => ?_)
      refine s_v (fun _ k => tk_bipush G dX8_step_37 cB_10 k) ?_
      refine s_icmp_lt (tgt := 49) G dX8_step_39 (by decide) (fun q39 => ?_) (fun q39 => ?_)
      ·
        refine s_v (fun _ k => tk_aload_n G dX8_step_49 0 rfl (tk_gr G kX8 dX8_step_50 wF_X8_19 k0 gR_8_1 (tk_aload_n G dX8_step_53 0 rfl (tk_gr G kX8 dX8_step_54 wF_X8_10 k0 gR_8_0 k)))) ?_
        refine s_callVV (As := [.ref (e_ad E (fld a0 0))]) G dX8_step_57 wY_X3_keep wM_X8_68 wI_X3_keep wS_X3_keep (tk_rm hR (by decide) (by decide)) kX3 (kF_8_1 k0) (by decide) (c_X3_keep E x15.2 (fld a0 1) (fld a0 0) (kF_8_1 k0) (kF_8_0 k0)) rfl rfl (Nat.le_of_ble_eq_true rfl) ⟨Nat.zero_le _, Nat.zero_le _⟩ (fun x57 => ?_)
        refine s_v (fun _ k => tk_aload_n G dX8_step_60 0 rfl (tk_gr G kX8 dX8_step_61 wF_X8_10 k0 gR_8_0 (tk_iload_n G dX8_step_64 1 rfl (tk_iload_n G dX8_step_65 2 rfl (tk_iload_n G dX8_step_66 3 rfl (tk_iload G dX8_step_67 4 rfl k)))))) ?_
        refine s_callSI (As := [.int a2, .int a3, .int a4]) G dX8_step_69 wY_X8_packed wM_X8_95 wI_X8_packed (tk_rm hR (by decide) (by decide)) (c_X8_packed E x57 a2 a3 a4) rfl rfl (Nat.le_of_ble_eq_true rfl) ⟨Nat.zero_le _, Nat.zero_le _⟩ (fun x69 => ?_)
        refine s_callVV (As := [.int a1, .int x69.1]) G dX8_step_72 wY_X0_addStep wM_X8_98 wI_X0_addStep wS_X0_addStep (tk_rm hR (by decide) (by decide)) kX0 (kF_8_0 k0) (by decide) (c_X0_addStep E x69.2 (fld a0 0) a1 x69.1 (kF_8_0 k0)) rfl rfl (Nat.le_of_ble_eq_true rfl) ⟨Nat.zero_le _, Nat.zero_le _⟩ (fun x72 => ?_)
        refine s_v (fun _ k => tk_aload_n G dX8_step_75 0 rfl (tk_gr G kX8 dX8_step_76 wF_X8_26 k0 gR_8_2 (tk_iload_n G dX8_step_79 1 rfl k))) ?_
        refine s_callVV (As := [.int a1]) G dX8_step_80 wY_X2_forget wM_X8_102 wI_X2_forget wS_X2_forget (tk_rm hR (by decide) (by decide)) kX2 (kF_8_2 k0) (by decide) (c_X2_forget E x72 (fld a0 2) a1 (kF_8_2 k0)) rfl rfl (Nat.le_of_ble_eq_true rfl) ⟨Nat.zero_le _, Nat.zero_le _⟩ (fun x80 => ?_)
        refine s_v (fun _ k => tk_aload_n G dX8_step_83 0 rfl (tk_gr G kX8 dX8_step_84 wF_X8_10 k0 gR_8_0 (tk_gr G kX0 dX8_step_87 wF_X8_92 (kF_8_0 k0) gR_0_5 (tk_iload_n G dX8_step_90 1 rfl k)))) ?_
        refine s_iald G dX8_step_91 (kF_0_5 (kF_8_0 k0)) (fun v91 => ?_)
        exact s_iret G dX8_step_92
      ·
        refine s_v (fun _ k => tk_aload_n G dX8_step_42 0 rfl (tk_ldc G dX8_step_43 wK_X8_67 k)) ?_
        refine s_callVI (As := [.int (-100005)]) G dX8_step_45 wY_X8_finding wM_X8_60 wI_X8_finding wS_X8_finding (tk_rm hR (by decide) (by decide)) kX8 k0 (by decide) (c_X8_finding E x15.2 a0 (-100005) k0) rfl rfl (Nat.le_of_ble_eq_true rfl) ⟨Nat.zero_le _, Nat.zero_le _⟩ (fun x45 => ?_)
        exact s_iret G dX8_step_48
theorem c_X8_step (E : tkE) (h : tkH) (a0 : Nat) (a1 : Int32) (a2 : Int32) (a3 : Int32) (a4 : Int32) (k0 : kd a0 = 11) : ∀ x, f_X8_step h a0 a1 a2 a3 a4 = some x → tkM E yX8_step cX8_step 5 (some .int) 3 tkF [.ref (e_ad E a0), .int a1, .int a2, .int a3, .int a4] h (some (.int x.1)) x.2 := fun x hx => tkM_of (by decide) (Nat.le_of_ble_eq_true rfl) (fun _ hR G => w_X8_step hR G h a0 a1 a2 a3 a4 k0 x hx)
set_option maxRecDepth 100000 in
set_option maxHeartbeats 4000000 in
theorem w_X8_tale {E : tkE} {X : tkX} (hR : x_R X = tkR 3) (G : tkG E X cX8_tale 4 RX8 (some .int)) (h : tkH) (a0 : Nat) (a1 : Int32) (a2 : Int32) (a3 : Int32) (k0 : kd a0 = 11) : tkS E X 4 0 0 (tkZi E X) 0 [(0, .ref (e_ad E a0)), (1, .int a1), (2, .int a2), (3, .int a3)] [] h (f_X8_tale h a0 a1 a2 a3) := by
  unfold f_X8_tale
  refine s_v (fun _ k => tk_iload_n G dX8_tale_0 1 rfl (tk_iconst G dX8_tale_1 cI_4 k)) ?_
  refine s_callSI (As := [.int a1, .int 4]) G dX8_tale_2 wY_X8_isWithin wM_X8_55 wI_X8_isWithin (tk_rm hR (by decide) (by decide)) (c_X8_isWithin E h a1 4) rfl rfl (Nat.le_of_ble_eq_true rfl) ⟨Nat.zero_le _, Nat.zero_le _⟩ (fun x2 => ?_)
  have hJ27 : ∀ (g27 : tkH), tkS E X 4 0 0 (tkZi E X) 27 [(0, .ref (e_ad E a0))] [] g27 (f_X8_tale_J27 a0 g27) := by
    intro g27
    unfold f_X8_tale_J27
    refine s_v (fun _ k => tk_aload_n G dX8_tale_27 0 rfl (tk_ldc G dX8_tale_28 wK_X8_59 k)) ?_
    refine s_callVI (As := [.int (-100001)]) G dX8_tale_30 wY_X8_finding wM_X8_60 wI_X8_finding wS_X8_finding (tk_rm hR (by decide) (by decide)) kX8 k0 (by decide) (c_X8_finding E g27 a0 (-100001) k0) rfl rfl (Nat.le_of_ble_eq_true rfl) ⟨Nat.zero_le _, Nat.zero_le _⟩ (fun x30 => ?_)
    exact s_iret G dX8_tale_33
  refine s_if_eq (tgt := 27) G dX8_tale_5 (by decide) (fun q5 => ?_) (fun q5 => ?_)
  ·
    refine s_sub [0] (al' := [(0, .ref (e_ad E a0))]) rfl ?_
    exact hJ27 _
  ·
    refine s_v (fun _ k => tk_iload_n G dX8_tale_8 2 rfl (tk_bipush G dX8_tale_9 cB_6 k)) ?_
    refine s_callSI (As := [.int a2, .int 6]) G dX8_tale_11 wY_X8_isWithin wM_X8_55 wI_X8_isWithin (tk_rm hR (by decide) (by decide)) (c_X8_isWithin E x2.2 a2 6) rfl rfl (Nat.le_of_ble_eq_true rfl) ⟨Nat.zero_le _, Nat.zero_le _⟩ (fun x11 => ?_)
    refine s_if_eq (tgt := 27) G dX8_tale_14 (by decide) (fun q14 => ?_) (fun q14 => ?_)
    ·
      refine s_sub [0] (al' := [(0, .ref (e_ad E a0))]) rfl ?_
      exact hJ27 _
    ·
      refine s_v (fun _ k => tk_iload_n G dX8_tale_17 3 rfl (tk_sipush G dX8_tale_18 cS_1000 k)) ?_
      refine s_callSI (As := [.int a3, .int 1000]) G dX8_tale_21 wY_X8_isWithin wM_X8_55 wI_X8_isWithin (tk_rm hR (by decide) (by decide)) (c_X8_isWithin E x11.2 a3 1000) rfl rfl (Nat.le_of_ble_eq_true rfl) ⟨Nat.zero_le _, Nat.zero_le _⟩ (fun x21 => ?_)
      refine s_if_ne (tgt := 34) G dX8_tale_24 (by decide) (fun q24 => ?_) (fun q24 => ?_)
      ·
        refine s_sub [0] (al' := [(0, .ref (e_ad E a0))]) rfl ?_
        exact hJ27 _
      ·
        refine s_v (fun _ k => tk_aload_n G dX8_tale_34 0 rfl (tk_gr G kX8 dX8_tale_35 wF_X8_10 k0 gR_8_0 (tk_gi G kX0 dX8_tale_38 wF_X8_64 (kF_8_0 k0) gI_0_0 (tk_bipush G dX8_tale_41 cB_10 k)))) ?_
        refine s_icmp_lt (tgt := 53) G dX8_tale_43 (by decide) (fun q43 => ?_) (fun q43 => ?_)
        ·
          refine s_v (fun _ k => tk_aload_n G dX8_tale_53 0 rfl (tk_gr G kX8 dX8_tale_54 wF_X8_19 k0 gR_8_1 (tk_aload_n G dX8_tale_57 0 rfl (tk_gr G kX8 dX8_tale_58 wF_X8_10 k0 gR_8_0 k)))) ?_
          refine s_callVV (As := [.ref (e_ad E (fld a0 0))]) G dX8_tale_61 wY_X3_keep wM_X8_68 wI_X3_keep wS_X3_keep (tk_rm hR (by decide) (by decide)) kX3 (kF_8_1 k0) (by decide) (c_X3_keep E x21.2 (fld a0 1) (fld a0 0) (kF_8_1 k0) (kF_8_0 k0)) rfl rfl (Nat.le_of_ble_eq_true rfl) ⟨Nat.zero_le _, Nat.zero_le _⟩ (fun x61 => ?_)
          refine s_v (fun _ k => tk_aload_n G dX8_tale_64 0 rfl (tk_gr G kX8 dX8_tale_65 wF_X8_10 k0 gR_8_0 (tk_iload_n G dX8_tale_68 1 rfl (tk_iload_n G dX8_tale_69 2 rfl (tk_iload_n G dX8_tale_70 3 rfl k))))) ?_
          refine s_callVI (As := [.int a1, .int a2, .int a3]) G dX8_tale_71 wY_X0_addTale wM_X8_72 wI_X0_addTale wS_X0_addTale (tk_rm hR (by decide) (by decide)) kX0 (kF_8_0 k0) (by decide) (c_X0_addTale E x61 (fld a0 0) a1 a2 a3 (kF_8_0 k0)) rfl rfl (Nat.le_of_ble_eq_true rfl) ⟨Nat.zero_le _, Nat.zero_le _⟩ (fun x71 => ?_)
          exact s_iret G dX8_tale_74
        ·
          refine s_v (fun _ k => tk_aload_n G dX8_tale_46 0 rfl (tk_ldc G dX8_tale_47 wK_X8_67 k)) ?_
          refine s_callVI (As := [.int (-100005)]) G dX8_tale_49 wY_X8_finding wM_X8_60 wI_X8_finding wS_X8_finding (tk_rm hR (by decide) (by decide)) kX8 k0 (by decide) (c_X8_finding E x21.2 a0 (-100005) k0) rfl rfl (Nat.le_of_ble_eq_true rfl) ⟨Nat.zero_le _, Nat.zero_le _⟩ (fun x49 => ?_)
          exact s_iret G dX8_tale_52
theorem c_X8_tale (E : tkE) (h : tkH) (a0 : Nat) (a1 : Int32) (a2 : Int32) (a3 : Int32) (k0 : kd a0 = 11) : ∀ x, f_X8_tale h a0 a1 a2 a3 = some x → tkM E yX8_tale cX8_tale 4 (some .int) 3 tkF [.ref (e_ad E a0), .int a1, .int a2, .int a3] h (some (.int x.1)) x.2 := fun x hx => tkM_of (by decide) (Nat.le_of_ble_eq_true rfl) (fun _ hR G => w_X8_tale hR G h a0 a1 a2 a3 k0 x hx)
set_option maxRecDepth 100000 in
set_option maxHeartbeats 4000000 in
theorem w_X8_undo {E : tkE} {X : tkX} (hR : x_R X = tkR 3) (G : tkG E X cX8_undo 1 RX8 (some .int)) (h : tkH) (a0 : Nat) (k0 : kd a0 = 11) : tkS E X 1 0 0 (tkZi E X) 0 [(0, .ref (e_ad E a0))] [] h (f_X8_undo h a0) := by
  unfold f_X8_undo
  refine s_v (fun _ k => tk_aload_n G dX8_undo_0 0 rfl (tk_gr G kX8 dX8_undo_1 wF_X8_19 k0 gR_8_1 (tk_gi G kX3 dX8_undo_4 wF_X8_280 (kF_8_1 k0) gI_3_2 k))) ?_
  refine s_if_gt (tgt := 17) G dX8_undo_7 (by decide) (fun q7 => ?_) (fun q7 => ?_)
  ·
    refine s_v (fun _ k => tk_aload_n G dX8_undo_17 0 rfl (tk_gr G kX8 dX8_undo_18 wF_X8_19 k0 gR_8_1 (tk_aload_n G dX8_undo_21 0 rfl (tk_gr G kX8 dX8_undo_22 wF_X8_10 k0 gR_8_0 k)))) ?_
    refine s_callVV (As := [.ref (e_ad E (fld a0 0))]) G dX8_undo_25 wY_X3_giveBack wM_X8_283 wI_X3_giveBack wS_X3_giveBack (tk_rm hR (by decide) (by decide)) kX3 (kF_8_1 k0) (by decide) (c_X3_giveBack E h (fld a0 1) (fld a0 0) (kF_8_1 k0) (kF_8_0 k0)) rfl rfl (Nat.le_of_ble_eq_true rfl) ⟨Nat.zero_le _, Nat.zero_le _⟩ (fun x25 => ?_)
    refine s_v (fun _ k => tk_aload_n G dX8_undo_28 0 rfl (tk_gr G kX8 dX8_undo_29 wF_X8_26 k0 gR_8_2 k)) ?_
    refine s_callVV (As := []) G dX8_undo_32 wY_X2_forgetAll wM_X8_139 wI_X2_forgetAll wS_X2_forgetAll (tk_rm hR (by decide) (by decide)) kX2 (kF_8_2 k0) (by decide) (c_X2_forgetAll E x25 (fld a0 2) (kF_8_2 k0)) rfl rfl (Nat.le_of_ble_eq_true rfl) ⟨Nat.zero_le _, Nat.zero_le _⟩ (fun x32 => ?_)
    refine s_v (fun _ k => tk_aload_n G dX8_undo_35 0 rfl (tk_gr G kX8 dX8_undo_36 wF_X8_19 k0 gR_8_1 (tk_gi G kX3 dX8_undo_39 wF_X8_280 (kF_8_1 k0) gI_3_2 k))) ?_
    exact s_iret G dX8_undo_42
  ·
    refine s_v (fun _ k => tk_aload_n G dX8_undo_10 0 rfl (tk_ldc G dX8_undo_11 wK_X8_106 k)) ?_
    refine s_callVI (As := [.int (-100006)]) G dX8_undo_13 wY_X8_finding wM_X8_60 wI_X8_finding wS_X8_finding (tk_rm hR (by decide) (by decide)) kX8 k0 (by decide) (c_X8_finding E h a0 (-100006) k0) rfl rfl (Nat.le_of_ble_eq_true rfl) ⟨Nat.zero_le _, Nat.zero_le _⟩ (fun x13 => ?_)
    exact s_iret G dX8_undo_16
theorem c_X8_undo (E : tkE) (h : tkH) (a0 : Nat) (k0 : kd a0 = 11) : ∀ x, f_X8_undo h a0 = some x → tkM E yX8_undo cX8_undo 1 (some .int) 3 tkF [.ref (e_ad E a0)] h (some (.int x.1)) x.2 := fun x hx => tkM_of (by decide) (Nat.le_of_ble_eq_true rfl) (fun _ hR G => w_X8_undo hR G h a0 k0 x hx)
set_option maxRecDepth 100000 in
set_option maxHeartbeats 4000000 in
theorem w_X8_unstep {E : tkE} {X : tkX} (hR : x_R X = tkR 3) (G : tkG E X cX8_unstep 2 RX8 (some .int)) (h : tkH) (a0 : Nat) (a1 : Int32) (k0 : kd a0 = 11) : tkS E X 2 0 0 (tkZi E X) 0 [(0, .ref (e_ad E a0)), (1, .int a1)] [] h (f_X8_unstep h a0 a1) := by
  unfold f_X8_unstep
  refine s_v (fun _ k => tk_aload_n G dX8_unstep_0 0 rfl (tk_gr G kX8 dX8_unstep_1 wF_X8_10 k0 gR_8_0 (tk_iload_n G dX8_unstep_4 1 rfl k))) ?_
  refine s_callVI (As := [.int a1]) G dX8_unstep_5 wY_X0_hasTale wM_X8_76 wI_X0_hasTale wS_X0_hasTale (tk_rm hR (by decide) (by decide)) kX0 (kF_8_0 k0) (by decide) (c_X0_hasTale E h (fld a0 0) a1 (kF_8_0 k0)) rfl rfl (Nat.le_of_ble_eq_true rfl) ⟨Nat.zero_le _, Nat.zero_le _⟩ (fun x5 => ?_)
  refine s_if_ne (tgt := 18) G dX8_unstep_8 (by decide) (fun q8 => ?_) (fun q8 => ?_)
  ·
    refine s_v (fun _ k => tk_aload_n G dX8_unstep_11 0 rfl (tk_ldc G dX8_unstep_12 wK_X8_59 k)) ?_
    refine s_callVI (As := [.int (-100001)]) G dX8_unstep_14 wY_X8_finding wM_X8_60 wI_X8_finding wS_X8_finding (tk_rm hR (by decide) (by decide)) kX8 k0 (by decide) (c_X8_finding E x5.2 a0 (-100001) k0) rfl rfl (Nat.le_of_ble_eq_true rfl) ⟨Nat.zero_le _, Nat.zero_le _⟩ (fun x14 => ?_)
    exact s_iret G dX8_unstep_17
  ·
    refine s_v (fun _ k => tk_aload_n G dX8_unstep_18 0 rfl (tk_gr G kX8 dX8_unstep_19 wF_X8_10 k0 gR_8_0 (tk_gr G kX0 dX8_unstep_22 wF_X8_92 (kF_8_0 k0) gR_0_5 (tk_iload_n G dX8_unstep_25 1 rfl k)))) ?_
    refine s_iald G dX8_unstep_26 (kF_0_5 (kF_8_0 k0)) (fun v26 => ?_)
    refine s_if_gt (tgt := 37) G dX8_unstep_27 (by decide) (fun q27 => ?_) (fun q27 => ?_)
    ·
      refine s_v (fun _ k => tk_aload_n G dX8_unstep_37 0 rfl (tk_gr G kX8 dX8_unstep_38 wF_X8_19 k0 gR_8_1 (tk_aload_n G dX8_unstep_41 0 rfl (tk_gr G kX8 dX8_unstep_42 wF_X8_10 k0 gR_8_0 k)))) ?_
      refine s_callVV (As := [.ref (e_ad E (fld a0 0))]) G dX8_unstep_45 wY_X3_keep wM_X8_68 wI_X3_keep wS_X3_keep (tk_rm hR (by decide) (by decide)) kX3 (kF_8_1 k0) (by decide) (c_X3_keep E x5.2 (fld a0 1) (fld a0 0) (kF_8_1 k0) (kF_8_0 k0)) rfl rfl (Nat.le_of_ble_eq_true rfl) ⟨Nat.zero_le _, Nat.zero_le _⟩ (fun x45 => ?_)
      refine s_v (fun _ k => tk_aload_n G dX8_unstep_48 0 rfl (tk_gr G kX8 dX8_unstep_49 wF_X8_10 k0 gR_8_0 (tk_gr G kX0 dX8_unstep_52 wF_X8_92 (kF_8_0 k0) gR_0_5 (tk_iload_n G dX8_unstep_55 1 rfl (tk_dup2 G dX8_unstep_56 rfl rfl k))))) ?_
      refine s_iald G dX8_unstep_57 (kF_0_5 (kF_8_0 k0)) (fun v57 => ?_)
      refine s_v (fun _ k => tk_iconst G dX8_unstep_58 cI_1 (tk_isub G dX8_unstep_59 k)) ?_
      refine s_iast G dX8_unstep_60 (kF_0_5 (kF_8_0 k0)) (fun h60 => ?_)
      refine s_v (fun _ k => tk_aload_n G dX8_unstep_61 0 rfl (tk_gr G kX8 dX8_unstep_62 wF_X8_26 k0 gR_8_2 (tk_iload_n G dX8_unstep_65 1 rfl k))) ?_
      refine s_callVV (As := [.int a1]) G dX8_unstep_66 wY_X2_forget wM_X8_102 wI_X2_forget wS_X2_forget (tk_rm hR (by decide) (by decide)) kX2 (kF_8_2 k0) (by decide) (c_X2_forget E h60 (fld a0 2) a1 (kF_8_2 k0)) rfl rfl (Nat.le_of_ble_eq_true rfl) ⟨Nat.zero_le _, Nat.zero_le _⟩ (fun x66 => ?_)
      refine s_v (fun _ k => tk_aload_n G dX8_unstep_69 0 rfl (tk_gr G kX8 dX8_unstep_70 wF_X8_10 k0 gR_8_0 (tk_gr G kX0 dX8_unstep_73 wF_X8_92 (kF_8_0 k0) gR_0_5 (tk_iload_n G dX8_unstep_76 1 rfl k)))) ?_
      refine s_iald G dX8_unstep_77 (kF_0_5 (kF_8_0 k0)) (fun v77 => ?_)
      exact s_iret G dX8_unstep_78
    ·
      refine s_v (fun _ k => tk_aload_n G dX8_unstep_30 0 rfl (tk_ldc G dX8_unstep_31 wK_X8_106 k)) ?_
      refine s_callVI (As := [.int (-100006)]) G dX8_unstep_33 wY_X8_finding wM_X8_60 wI_X8_finding wS_X8_finding (tk_rm hR (by decide) (by decide)) kX8 k0 (by decide) (c_X8_finding E x5.2 a0 (-100006) k0) rfl rfl (Nat.le_of_ble_eq_true rfl) ⟨Nat.zero_le _, Nat.zero_le _⟩ (fun x33 => ?_)
      exact s_iret G dX8_unstep_36
theorem c_X8_unstep (E : tkE) (h : tkH) (a0 : Nat) (a1 : Int32) (k0 : kd a0 = 11) : ∀ x, f_X8_unstep h a0 a1 = some x → tkM E yX8_unstep cX8_unstep 2 (some .int) 3 tkF [.ref (e_ad E a0), .int a1] h (some (.int x.1)) x.2 := fun x hx => tkM_of (by decide) (Nat.le_of_ble_eq_true rfl) (fun _ hR G => w_X8_unstep hR G h a0 a1 k0 x hx)
set_option maxRecDepth 100000 in
set_option maxHeartbeats 4000000 in
theorem w_X8_way {E : tkE} {X : tkX} (hR : x_R X = tkR 3) (G : tkG E X cX8_way 5 RX8 (some .int)) (h : tkH) (a0 : Nat) (a1 : Int32) (a2 : Int32) (a3 : Int32) (k0 : kd a0 = 11) : tkS E X 5 0 0 (tkZi E X) 0 [(0, .ref (e_ad E a0)), (1, .int a1), (2, .int a2), (3, .int a3)] [] h (f_X8_way h a0 a1 a2 a3) := by
  unfold f_X8_way
  refine s_v (fun _ k => tk_iload_n G dX8_way_0 1 rfl (tk_bipush G dX8_way_1 cB_6 k)) ?_
  refine s_callSI (As := [.int a1, .int 6]) G dX8_way_3 wY_X8_isWithin wM_X8_55 wI_X8_isWithin (tk_rm hR (by decide) (by decide)) (c_X8_isWithin E h a1 6) rfl rfl (Nat.le_of_ble_eq_true rfl) ⟨Nat.zero_le _, Nat.zero_le _⟩ (fun x3 => ?_)
  have hJ28 : ∀ (g28 : tkH), tkS E X 5 0 0 (tkZi E X) 28 [(0, .ref (e_ad E a0))] [] g28 (f_X8_way_J28 a0 g28) := by
    intro g28
    unfold f_X8_way_J28
    refine s_v (fun _ k => tk_aload_n G dX8_way_28 0 rfl (tk_ldc G dX8_way_29 wK_X8_59 k)) ?_
    refine s_callVI (As := [.int (-100001)]) G dX8_way_31 wY_X8_finding wM_X8_60 wI_X8_finding wS_X8_finding (tk_rm hR (by decide) (by decide)) kX8 k0 (by decide) (c_X8_finding E g28 a0 (-100001) k0) rfl rfl (Nat.le_of_ble_eq_true rfl) ⟨Nat.zero_le _, Nat.zero_le _⟩ (fun x31 => ?_)
    exact s_iret G dX8_way_34
  refine s_if_eq (tgt := 28) G dX8_way_6 (by decide) (fun q6 => ?_) (fun q6 => ?_)
  ·
    refine s_sub [0] (al' := [(0, .ref (e_ad E a0))]) rfl ?_
    exact hJ28 _
  ·
    refine s_v (fun _ k => tk_iload_n G dX8_way_9 2 rfl (tk_bipush G dX8_way_10 cB_6 k)) ?_
    refine s_callSI (As := [.int a2, .int 6]) G dX8_way_12 wY_X8_isWithin wM_X8_55 wI_X8_isWithin (tk_rm hR (by decide) (by decide)) (c_X8_isWithin E x3.2 a2 6) rfl rfl (Nat.le_of_ble_eq_true rfl) ⟨Nat.zero_le _, Nat.zero_le _⟩ (fun x12 => ?_)
    refine s_if_eq (tgt := 28) G dX8_way_15 (by decide) (fun q15 => ?_) (fun q15 => ?_)
    ·
      refine s_sub [0] (al' := [(0, .ref (e_ad E a0))]) rfl ?_
      exact hJ28 _
    ·
      refine s_v (fun _ k => tk_iload_n G dX8_way_18 3 rfl (tk_sipush G dX8_way_19 cS_1000 k)) ?_
      refine s_callSI (As := [.int a3, .int 1000]) G dX8_way_22 wY_X8_isWithin wM_X8_55 wI_X8_isWithin (tk_rm hR (by decide) (by decide)) (c_X8_isWithin E x12.2 a3 1000) rfl rfl (Nat.le_of_ble_eq_true rfl) ⟨Nat.zero_le _, Nat.zero_le _⟩ (fun x22 => ?_)
      refine s_if_ne (tgt := 35) G dX8_way_25 (by decide) (fun q25 => ?_) (fun q25 => ?_)
      ·
        refine s_sub [0] (al' := [(0, .ref (e_ad E a0))]) rfl ?_
        exact hJ28 _
      ·
        refine s_v (fun _ k => tk_iload_n G dX8_way_35 1 rfl (tk_iload_n G dX8_way_36 2 rfl k)) ?_
        refine s_icmp_ne (tgt := 47) G dX8_way_37 (by decide) (fun q37 => ?_) (fun q37 => ?_)
        ·
          refine s_v (fun _ k => tk_aload_n G dX8_way_40 0 rfl (tk_ldc G dX8_way_41 wK_X8_148 k)) ?_
          refine s_callVI (As := [.int (-100003)]) G dX8_way_43 wY_X8_finding wM_X8_60 wI_X8_finding wS_X8_finding (tk_rm hR (by decide) (by decide)) kX8 k0 (by decide) (c_X8_finding E x22.2 a0 (-100003) k0) rfl rfl (Nat.le_of_ble_eq_true rfl) ⟨Nat.zero_le _, Nat.zero_le _⟩ (fun x43 => ?_)
          exact s_iret G dX8_way_46
        ·
          refine s_v (fun _ k => tk_aload_n G dX8_way_47 0 rfl (tk_gr G kX8 dX8_way_48 wF_X8_19 k0 gR_8_1 (tk_aload_n G dX8_way_51 0 rfl (tk_gr G kX8 dX8_way_52 wF_X8_10 k0 gR_8_0 k)))) ?_
          refine s_callVV (As := [.ref (e_ad E (fld a0 0))]) G dX8_way_55 wY_X3_keep wM_X8_68 wI_X3_keep wS_X3_keep (tk_rm hR (by decide) (by decide)) kX3 (kF_8_1 k0) (by decide) (c_X3_keep E x22.2 (fld a0 1) (fld a0 0) (kF_8_1 k0) (kF_8_0 k0)) rfl rfl (Nat.le_of_ble_eq_true rfl) ⟨Nat.zero_le _, Nat.zero_le _⟩ (fun x55 => ?_)
          refine s_v (fun _ k => tk_aload_n G dX8_way_58 0 rfl (tk_gr G kX8 dX8_way_59 wF_X8_10 k0 gR_8_0 (tk_iload_n G dX8_way_62 1 rfl (tk_iload_n G dX8_way_63 2 rfl k)))) ?_
          refine s_callVI (As := [.int a1, .int a2]) G dX8_way_64 wY_X0_wayBetween wM_X8_149 wI_X0_wayBetween wS_X0_wayBetween (tk_rm hR (by decide) (by decide)) kX0 (kF_8_0 k0) (by decide) (c_X0_wayBetween E x55 (fld a0 0) a1 a2 (kF_8_0 k0)) rfl rfl (Nat.le_of_ble_eq_true rfl) ⟨Nat.zero_le _, Nat.zero_le _⟩ (fun x64 => ?_)
          refine s_v (fun _ k => tk_istore (al' := [(4, .int x64.1), (0, .ref (e_ad E a0)), (1, .int a1), (2, .int a2), (3, .int a3)]) G dX8_way_67 (by decide) rfl (tk_aload_n G dX8_way_69 1 rfl (tk_gr G kX8 dX8_way_70 wF_X8_10 k0 gR_8_0 (tk_iload_n G dX8_way_73 2 rfl (tk_iload_n G dX8_way_74 3 rfl (tk_iload_n G dX8_way_75 4 rfl k)))))) ?_
          refine s_callVV (As := [.int a1, .int a2, .int a3]) G dX8_way_76 wY_X0_setWay wM_X8_152 wI_X0_setWay wS_X0_setWay (tk_rm hR (by decide) (by decide)) kX0 (kF_8_0 k0) (by decide) (c_X0_setWay E x64.2 (fld a0 0) a1 a2 a3 (kF_8_0 k0)) rfl rfl (Nat.le_of_ble_eq_true rfl) ⟨Nat.zero_le _, Nat.zero_le _⟩ (fun x76 => ?_)
          refine s_v (fun _ k => tk_iload G dX8_way_79 0 rfl k) ?_
          exact s_iret G dX8_way_81
theorem c_X8_way (E : tkE) (h : tkH) (a0 : Nat) (a1 : Int32) (a2 : Int32) (a3 : Int32) (k0 : kd a0 = 11) : ∀ x, f_X8_way h a0 a1 a2 a3 = some x → tkM E yX8_way cX8_way 5 (some .int) 3 tkF [.ref (e_ad E a0), .int a1, .int a2, .int a3] h (some (.int x.1)) x.2 := fun x hx => tkM_of (by decide) (Nat.le_of_ble_eq_true rfl) (fun _ hR G => w_X8_way hR G h a0 a1 a2 a3 k0 x hx)
set_option maxRecDepth 100000 in
set_option maxHeartbeats 4000000 in
theorem w_X9_findPiece {E : tkE} {X : tkX} (hR : x_R X = tkR 3) (G : tkG E X cX9_findPiece 7 RX9 none) (h : tkH) (a0 : Nat) (a1 : Int32) (a2 : Int32) (k0 : kd a0 = 12) : tkS E X 7 0 0 (tkZv E X) 0 [(0, .ref (e_ad E a0)), (1, .int a1), (2, .int a2)] [] h (f_X9_findPiece h a0 a1 a2) := by
  unfold f_X9_findPiece
  refine s_v (fun _ k => tk_aload_n G dX9_findPiece_0 0 rfl (tk_iconst G dX9_findPiece_1 cI_0 (tk_pi G kX9 dX9_findPiece_2 wF_X9_209 k0 gP_9_25 (tk_iconst G dX9_findPiece_5 cI_0 (tk_istore_n (al' := [(3, .int 0), (0, .ref (e_ad E a0)), (1, .int a1), (2, .int a2)]) G dX9_findPiece_6 (by decide) rfl k))))) ?_
  refine s_sub [1, 2, 3, 0] (al' := [(0, .ref (e_ad E a0)), (1, .int a1), (2, .int a2), (3, .int 0)]) rfl ?_
  unfold f_X9_findPiece_L7
  refine s_lp1 (al := fun y7_3 => [(0, .ref (e_ad E a0)), (1, .int a1), (2, .int a2), (3, .int y7_3)]) (fun kk7 hL7 g7 y7_3 => ?_) _ _ _
  refine s_v (fun _ k => tk_iload_n G dX9_findPiece_7 3 rfl (tk_aload_n G dX9_findPiece_8 0 rfl (tk_gr G kX9 dX9_findPiece_9 wF_X9_9 k0 gR_9_0 (tk_bipush G dX9_findPiece_12 cB_70 (tk_iload_n G dX9_findPiece_14 1 rfl (tk_iadd G dX9_findPiece_15 k)))))) ?_
  refine s_iald G dX9_findPiece_16 (kF_9_0 k0) (fun v16 => ?_)
  refine s_icmp_ge (tgt := 108) G dX9_findPiece_17 (by decide) (fun q17 => ?_) (fun q17 => ?_)
  ·
    exact s_vret G dX9_findPiece_108
  ·
    refine s_v (fun _ k => tk_iconst G dX9_findPiece_20 cI_0 (tk_istore (al' := [(4, .int 0), (0, .ref (e_ad E a0)), (1, .int a1), (2, .int a2), (3, .int y7_3)]) G dX9_findPiece_21 (by decide) rfl k)) ?_
    have hX102 : ∀ (gz102 : tkH), tkS E X 7 0 0 (tkZv E X) 102 [(0, .ref (e_ad E a0)), (1, .int a1), (2, .int a2), (3, .int y7_3)] [] gz102 (kk7 gz102 (y7_3 + 1)) := by
      intro gz102
      refine s_v (fun _ k => tk_iinc (al' := [(3, .int (y7_3 + 1)), (0, .ref (e_ad E a0)), (1, .int a1), (2, .int a2)]) G dX9_findPiece_102 3 rfl (ci_1 _) (by decide) rfl (tk_goto (tgt := 7) G dX9_findPiece_105 (by decide) k)) ?_
      refine s_sub [1, 2, 3, 0] (al' := [(0, .ref (e_ad E a0)), (1, .int a1), (2, .int a2), (3, .int (y7_3 + 1))]) rfl ?_
      exact hL7 _ _
    refine s_sub [1, 2, 3, 4, 0] (al' := [(0, .ref (e_ad E a0)), (1, .int a1), (2, .int a2), (3, .int y7_3), (4, .int 0)]) rfl ?_
    unfold f_X9_findPiece_L23
    refine s_lp1 (al := fun y23_4 => [(0, .ref (e_ad E a0)), (1, .int a1), (2, .int a2), (3, .int y7_3), (4, .int y23_4)]) (fun kk23 hL23 g23 y23_4 => ?_) _ _ _
    refine s_v (fun _ k => tk_iload G dX9_findPiece_23 4 rfl (tk_aload_n G dX9_findPiece_25 0 rfl (tk_gr G kX9 dX9_findPiece_26 wF_X9_9 k0 gR_9_0 (tk_bipush G dX9_findPiece_29 cB_70 (tk_iload_n G dX9_findPiece_31 2 rfl (tk_iadd G dX9_findPiece_32 k)))))) ?_
    refine s_iald G dX9_findPiece_33 (kF_9_0 k0) (fun v33 => ?_)
    refine s_icmp_ge (tgt := 102) G dX9_findPiece_34 (by decide) (fun q34 => ?_) (fun q34 => ?_)
    ·
      refine s_sub [0, 1, 2, 3] (al' := [(0, .ref (e_ad E a0)), (1, .int a1), (2, .int a2), (3, .int y7_3)]) rfl ?_
      exact hX102 _
    ·
      refine s_v (fun _ k => tk_iconst G dX9_findPiece_37 cI_0 (tk_istore (al' := [(5, .int 0), (0, .ref (e_ad E a0)), (1, .int a1), (2, .int a2), (3, .int y7_3), (4, .int y23_4)]) G dX9_findPiece_38 (by decide) rfl k)) ?_
      have hX96 : ∀ (gz96 : tkH), tkS E X 7 0 0 (tkZv E X) 96 [(0, .ref (e_ad E a0)), (1, .int a1), (2, .int a2), (3, .int y7_3), (4, .int y23_4)] [] gz96 (kk23 gz96 (y23_4 + 1)) := by
        intro gz96
        refine s_v (fun _ k => tk_iinc (al' := [(4, .int (y23_4 + 1)), (0, .ref (e_ad E a0)), (1, .int a1), (2, .int a2), (3, .int y7_3)]) G dX9_findPiece_96 4 rfl (ci_1 _) (by decide) rfl (tk_goto (tgt := 23) G dX9_findPiece_99 (by decide) k)) ?_
        refine s_sub [1, 2, 3, 4, 0] (al' := [(0, .ref (e_ad E a0)), (1, .int a1), (2, .int a2), (3, .int y7_3), (4, .int (y23_4 + 1))]) rfl ?_
        exact hL23 _ _
      refine s_sub [1, 2, 3, 4, 5, 0] (al' := [(0, .ref (e_ad E a0)), (1, .int a1), (2, .int a2), (3, .int y7_3), (4, .int y23_4), (5, .int 0)]) rfl ?_
      unfold f_X9_findPiece_L40
      refine s_lp1 (al := fun y40_5 => [(0, .ref (e_ad E a0)), (1, .int a1), (2, .int a2), (3, .int y7_3), (4, .int y23_4), (5, .int y40_5)]) (fun kk40 hL40 g40 y40_5 => ?_) _ _ _
      refine s_v (fun _ k => tk_iload G dX9_findPiece_40 5 rfl (tk_bipush G dX9_findPiece_42 cB_24 k)) ?_
      refine s_icmp_ge (tgt := 96) G dX9_findPiece_44 (by decide) (fun q44 => ?_) (fun q44 => ?_)
      ·
        refine s_sub [0, 1, 2, 3, 4] (al' := [(0, .ref (e_ad E a0)), (1, .int a1), (2, .int a2), (3, .int y7_3), (4, .int y23_4)]) rfl ?_
        exact hX96 _
      ·
        refine s_v (fun _ k => tk_aload_n G dX9_findPiece_47 0 rfl (tk_iload G dX9_findPiece_48 5 rfl k)) ?_
        refine s_callVV (As := [.int y40_5]) G dX9_findPiece_50 wY_X9_carry wM_X9_148 wI_X9_carry wS_X9_carry (tk_rm hR (by decide) (by decide)) kX9 k0 (by decide) (c_X9_carry E g40 a0 y40_5 k0) rfl rfl (Nat.le_of_ble_eq_true rfl) ⟨Nat.zero_le _, Nat.zero_le _⟩ (fun x50 => ?_)
        refine s_v (fun _ k => tk_aload_n G dX9_findPiece_53 0 rfl (tk_iload_n G dX9_findPiece_54 1 rfl (tk_iload_n G dX9_findPiece_55 3 rfl (tk_iload_n G dX9_findPiece_56 2 rfl (tk_iload G dX9_findPiece_57 4 rfl k))))) ?_
        refine s_callVI (As := [.int a1, .int y7_3, .int a2, .int y23_4]) G dX9_findPiece_59 wY_X9_same wM_X9_212 wI_X9_same wS_X9_same (tk_rm hR (by decide) (by decide)) kX9 k0 (by decide) (c_X9_same E x50 a0 a1 y7_3 a2 y23_4 k0) rfl rfl (Nat.le_of_ble_eq_true rfl) ⟨Nat.zero_le _, Nat.zero_le _⟩ (fun x59 => ?_)
        refine s_v (fun _ k => tk_istore (al' := [(6, .int x59.1), (0, .ref (e_ad E a0)), (1, .int a1), (2, .int a2), (3, .int y7_3), (4, .int y23_4), (5, .int y40_5)]) G dX9_findPiece_62 (by decide) rfl (tk_iload G dX9_findPiece_64 0 rfl (tk_aload_n G dX9_findPiece_66 1 rfl (tk_gi G kX9 dX9_findPiece_67 wF_X9_209 k0 gI_9_25 k)))) ?_
        refine s_icmp_le (tgt := 90) G dX9_findPiece_70 (by decide) (fun q70 => ?_) (fun q70 => ?_)
        ·
          refine s_v (fun _ k => tk_iinc (al' := [(5, .int (y40_5 + 1)), (6, .int x59.1), (0, .ref (e_ad E a0)), (1, .int a1), (2, .int a2), (3, .int y7_3), (4, .int y23_4)]) G dX9_findPiece_90 6 rfl (ci_1 _) (by decide) rfl (tk_goto (tgt := 40) G dX9_findPiece_93 (by decide) k)) ?_
          refine s_sub [2, 3, 4, 5, 6, 0] (al' := [(0, .ref (e_ad E a0)), (1, .int a1), (2, .int a2), (3, .int y7_3), (4, .int y23_4), (5, .int (y40_5 + 1))]) rfl ?_
          exact hL40 _ _
        ·
          refine s_v (fun _ k => tk_aload_n G dX9_findPiece_73 1 rfl (tk_iload G dX9_findPiece_74 0 rfl (tk_pi G kX9 dX9_findPiece_76 wF_X9_209 k0 gP_9_25 (tk_aload_n G dX9_findPiece_79 1 rfl (tk_iload_n G dX9_findPiece_80 4 rfl (tk_pi G kX9 dX9_findPiece_81 wF_X9_216 k0 gP_9_26 (tk_aload_n G dX9_findPiece_84 1 rfl (tk_iload G dX9_findPiece_85 5 rfl (tk_pi G kX9 dX9_findPiece_87 wF_X9_219 k0 gP_9_27 (tk_iinc (al' := [(5, .int (y40_5 + 1)), (6, .int x59.1), (0, .ref (e_ad E a0)), (1, .int a1), (2, .int a2), (3, .int y7_3), (4, .int y23_4)]) G dX9_findPiece_90 6 rfl (ci_1 _) (by decide) rfl (tk_goto (tgt := 40) G dX9_findPiece_93 (by decide) k))))))))))) ?_
          refine s_sub [2, 3, 4, 5, 6, 0] (al' := [(0, .ref (e_ad E a0)), (1, .int a1), (2, .int a2), (3, .int y7_3), (4, .int y23_4), (5, .int (y40_5 + 1))]) rfl ?_
          exact hL40 _ _
theorem c_X9_findPiece (E : tkE) (h : tkH) (a0 : Nat) (a1 : Int32) (a2 : Int32) (k0 : kd a0 = 12) : ∀ x, f_X9_findPiece h a0 a1 a2 = some x → tkM E yX9_findPiece cX9_findPiece 7 none 3 tkF [.ref (e_ad E a0), .int a1, .int a2] h none x := fun x hx => tkM_of (by decide) (Nat.le_of_ble_eq_true rfl) (fun _ hR G => w_X9_findPiece hR G h a0 a1 a2 k0 x hx)
set_option maxRecDepth 100000 in
set_option maxHeartbeats 4000000 in
theorem w_X9_leastCost {E : tkE} {X : tkX} (hR : x_R X = tkR 3) (G : tkG E X cX9_leastCost 4 RX9 (some .int)) (h : tkH) (a0 : Nat) (k0 : kd a0 = 12) : tkS E X 4 0 0 (tkZi E X) 0 [(0, .ref (e_ad E a0))] [] h (f_X9_leastCost h a0) := by
  unfold f_X9_leastCost
  refine s_v (fun _ k => tk_ldc G dX9_leastCost_0 wK_X9_151 (tk_istore_n (al' := [(1, .int 1000000), (0, .ref (e_ad E a0))]) G dX9_leastCost_2 (by decide) rfl (tk_iconst G dX9_leastCost_3 cI_0 (tk_istore_n (al' := [(2, .int 0), (1, .int 1000000), (0, .ref (e_ad E a0))]) G dX9_leastCost_4 (by decide) rfl k)))) ?_
  refine s_sub [2, 1, 0] (al' := [(0, .ref (e_ad E a0)), (1, .int 1000000), (2, .int 0)]) rfl ?_
  unfold f_X9_leastCost_L5
  refine s_lp2 (al := fun y5_1 y5_2 => [(0, .ref (e_ad E a0)), (1, .int y5_1), (2, .int y5_2)]) (fun kk5 hL5 g5 y5_1 y5_2 => ?_) _ _ _ _
  refine s_v (fun _ k => tk_iload_n G dX9_leastCost_5 2 rfl (tk_bipush G dX9_leastCost_6 cB_24 k)) ?_
  refine s_icmp_ge (tgt := 35) G dX9_leastCost_8 (by decide) (fun q8 => ?_) (fun q8 => ?_)
  ·
    refine s_v (fun _ k => tk_iload_n G dX9_leastCost_35 1 rfl k) ?_
    exact s_iret G dX9_leastCost_36
  ·
    refine s_v (fun _ k => tk_aload_n G dX9_leastCost_11 0 rfl (tk_iload_n G dX9_leastCost_12 2 rfl k)) ?_
    refine s_callVI (As := [.int y5_2]) G dX9_leastCost_13 wY_X9_layBy wM_X9_158 wI_X9_layBy wS_X9_layBy (tk_rm hR (by decide) (by decide)) kX9 k0 (by decide) (c_X9_layBy E g5 a0 y5_2 k0) rfl rfl (Nat.le_of_ble_eq_true rfl) ⟨Nat.zero_le _, Nat.zero_le _⟩ (fun x13 => ?_)
    refine s_v (fun _ k => tk_istore_n (al' := [(3, .int x13.1), (0, .ref (e_ad E a0)), (1, .int y5_1), (2, .int y5_2)]) G dX9_leastCost_16 (by decide) rfl (tk_iload_n G dX9_leastCost_17 0 rfl (tk_iload_n G dX9_leastCost_18 2 rfl k))) ?_
    refine s_icmp_ge (tgt := 29) G dX9_leastCost_19 (by decide) (fun q19 => ?_) (fun q19 => ?_)
    ·
      refine s_v (fun _ k => tk_iinc (al' := [(2, .int (y5_2 + 1)), (3, .int x13.1), (0, .ref (e_ad E a0)), (1, .int y5_1)]) G dX9_leastCost_29 3 rfl (ci_1 _) (by decide) rfl (tk_goto (tgt := 5) G dX9_leastCost_32 (by decide) k)) ?_
      refine s_sub [2, 3, 0] (al' := [(0, .ref (e_ad E a0)), (1, .int y5_1), (2, .int (y5_2 + 1))]) rfl ?_
      exact hL5 _ _ _
    ·
      refine s_v (fun _ k => tk_iload_n G dX9_leastCost_22 0 rfl (tk_istore_n (al' := [(1, .int x13.1), (3, .int x13.1), (0, .ref (e_ad E a0)), (2, .int y5_2)]) G dX9_leastCost_23 (by decide) rfl (tk_aload_n G dX9_leastCost_24 2 rfl (tk_iload_n G dX9_leastCost_25 3 rfl (tk_pi G kX9 dX9_leastCost_26 wF_X9_161 k0 gP_9_17 (tk_iinc (al' := [(2, .int (y5_2 + 1)), (1, .int x13.1), (3, .int x13.1), (0, .ref (e_ad E a0))]) G dX9_leastCost_29 3 rfl (ci_1 _) (by decide) rfl (tk_goto (tgt := 5) G dX9_leastCost_32 (by decide) k))))))) ?_
      refine s_sub [3, 1, 0] (al' := [(0, .ref (e_ad E a0)), (1, .int x13.1), (2, .int (y5_2 + 1))]) rfl ?_
      exact hL5 _ _ _
theorem c_X9_leastCost (E : tkE) (h : tkH) (a0 : Nat) (k0 : kd a0 = 12) : ∀ x, f_X9_leastCost h a0 = some x → tkM E yX9_leastCost cX9_leastCost 4 (some .int) 3 tkF [.ref (e_ad E a0)] h (some (.int x.1)) x.2 := fun x hx => tkM_of (by decide) (Nat.le_of_ble_eq_true rfl) (fun _ hR G => w_X9_leastCost hR G h a0 k0 x hx)
set_option maxRecDepth 100000 in
set_option maxHeartbeats 4000000 in
theorem w_X9_of {E : tkE} {X : tkX} (hR : x_R X = tkR 3) (G : tkG E X cX9_of 4 RX9 (some .int)) (h : tkH) (a0 : Nat) (a1 : Int32) (a2 : Int32) (a3 : Int32) (k0 : kd a0 = 12) : tkS E X 4 0 0 (tkZi E X) 0 [(0, .ref (e_ad E a0)), (1, .int a1), (2, .int a2), (3, .int a3)] [] h (f_X9_of h a0 a1 a2 a3) := by
  unfold f_X9_of
  refine s_v (fun _ k => tk_aload_n G dX9_of_0 0 rfl (tk_iload_n G dX9_of_1 1 rfl (tk_iload_n G dX9_of_2 2 rfl k))) ?_
  refine s_callVI (As := [.int a1, .int a2]) G dX9_of_3 wY_X9_isStep wM_X9_85 wI_X9_isStep wS_X9_isStep (tk_rm hR (by decide) (by decide)) kX9 k0 (by decide) (c_X9_isStep E h a0 a1 a2 k0) rfl rfl (Nat.le_of_ble_eq_true rfl) ⟨Nat.zero_le _, Nat.zero_le _⟩ (fun x3 => ?_)
  have hJ28 : ∀ (g28 : tkH), tkS E X 4 0 0 (tkZi E X) 28 [(0, .ref (e_ad E a0))] [] g28 (f_X9_of_J28 a0 g28) := by
    intro g28
    unfold f_X9_of_J28
    refine s_v (fun _ k => tk_aload_n G dX9_of_28 0 rfl (tk_ldc G dX9_of_29 wK_X9_66 k)) ?_
    refine s_callVI (As := [.int (-100001)]) G dX9_of_31 wY_X9_finding wM_X9_58 wI_X9_finding wS_X9_finding (tk_rm hR (by decide) (by decide)) kX9 k0 (by decide) (c_X9_finding E g28 a0 (-100001) k0) rfl rfl (Nat.le_of_ble_eq_true rfl) ⟨Nat.zero_le _, Nat.zero_le _⟩ (fun x31 => ?_)
    exact s_iret G dX9_of_34
  refine s_if_eq (tgt := 28) G dX9_of_6 (by decide) (fun q6 => ?_) (fun q6 => ?_)
  ·
    refine s_sub [0] (al' := [(0, .ref (e_ad E a0))]) rfl ?_
    exact hJ28 _
  ·
    refine s_v (fun _ k => tk_iload_n G dX9_of_9 3 rfl (tk_iconst G dX9_of_10 cI_0 (tk_iconst G dX9_of_11 cI_2 k))) ?_
    refine s_callSI (As := [.int a3, .int 0, .int 2]) G dX9_of_12 wY_X9_within wM_X9_50 wI_X9_within (tk_rm hR (by decide) (by decide)) (c_X9_within E x3.2 a3 0 2) rfl rfl (Nat.le_of_ble_eq_true rfl) ⟨Nat.zero_le _, Nat.zero_le _⟩ (fun x12 => ?_)
    refine s_if_eq (tgt := 28) G dX9_of_15 (by decide) (fun q15 => ?_) (fun q15 => ?_)
    ·
      refine s_sub [0] (al' := [(0, .ref (e_ad E a0))]) rfl ?_
      exact hJ28 _
    ·
      refine s_v (fun _ k => tk_aload_n G dX9_of_18 0 rfl (tk_iload_n G dX9_of_19 1 rfl (tk_iload_n G dX9_of_20 2 rfl (tk_iload_n G dX9_of_21 3 rfl k)))) ?_
      refine s_callVI (As := [.int a1, .int a2, .int a3]) G dX9_of_22 wY_X9_stepOf wM_X9_89 wI_X9_stepOf wS_X9_stepOf (tk_rm hR (by decide) (by decide)) kX9 k0 (by decide) (c_X9_stepOf E x12.2 a0 a1 a2 a3 k0) rfl rfl (Nat.le_of_ble_eq_true rfl) ⟨Nat.zero_le _, Nat.zero_le _⟩ (fun x22 => ?_)
      refine s_v (fun _ k => tk_goto (tgt := 34) G dX9_of_25 (by decide) k) ?_
      exact s_iret G dX9_of_34
theorem c_X9_of (E : tkE) (h : tkH) (a0 : Nat) (a1 : Int32) (a2 : Int32) (a3 : Int32) (k0 : kd a0 = 12) : ∀ x, f_X9_of h a0 a1 a2 a3 = some x → tkM E yX9_of cX9_of 4 (some .int) 3 tkF [.ref (e_ad E a0), .int a1, .int a2, .int a3] h (some (.int x.1)) x.2 := fun x hx => tkM_of (by decide) (Nat.le_of_ble_eq_true rfl) (fun _ hR G => w_X9_of hR G h a0 a1 a2 a3 k0 x hx)
set_option maxRecDepth 100000 in
set_option maxHeartbeats 4000000 in
theorem w_X9_takeOther {E : tkE} {X : tkX} (hR : x_R X = tkR 3) (G : tkG E X cX9_takeOther 2 RX9 none) (h : tkH) (a0 : Nat) (a1 : Int32) (k0 : kd a0 = 12) : tkS E X 2 0 0 (tkZv E X) 0 [(0, .ref (e_ad E a0)), (1, .int a1)] [] h (f_X9_takeOther h a0 a1) := by
  unfold f_X9_takeOther
  refine s_v (fun _ k => tk_aload_n G dX9_takeOther_0 0 rfl (tk_iload_n G dX9_takeOther_1 1 rfl (tk_pi G kX9 dX9_takeOther_2 wF_X9_124 k0 gP_9_12 (tk_aload_n G dX9_takeOther_5 0 rfl (tk_aload_n G dX9_takeOther_6 0 rfl (tk_iload_n G dX9_takeOther_7 1 rfl k)))))) ?_
  refine s_callVI (As := [.int a1]) G dX9_takeOther_8 wY_X9_laidFrom wM_X9_96 wI_X9_laidFrom wS_X9_laidFrom (tk_rm hR (by decide) (by decide)) kX9 k0 (by decide) (c_X9_laidFrom E (tkup h a0 12 a1) a0 a1 k0) rfl rfl (Nat.le_of_ble_eq_true rfl) ⟨Nat.zero_le _, Nat.zero_le _⟩ (fun x8 => ?_)
  refine s_v (fun _ k => tk_pi G kX9 dX9_takeOther_11 wF_X9_127 k0 gP_9_13 (tk_aload_n G dX9_takeOther_14 0 rfl (tk_aload_n G dX9_takeOther_15 0 rfl (tk_iload_n G dX9_takeOther_16 1 rfl k)))) ?_
  refine s_callVI (As := [.int a1]) G dX9_takeOther_17 wY_X9_laidTo wM_X9_99 wI_X9_laidTo wS_X9_laidTo (tk_rm hR (by decide) (by decide)) kX9 k0 (by decide) (c_X9_laidTo E (tkup x8.2 a0 13 x8.1) a0 a1 k0) rfl rfl (Nat.le_of_ble_eq_true rfl) ⟨Nat.zero_le _, Nat.zero_le _⟩ (fun x17 => ?_)
  refine s_v (fun _ k => tk_pi G kX9 dX9_takeOther_20 wF_X9_130 k0 gP_9_14 (tk_aload_n G dX9_takeOther_23 0 rfl (tk_aload_n G dX9_takeOther_24 0 rfl (tk_iload_n G dX9_takeOther_25 1 rfl k)))) ?_
  refine s_callVI (As := [.int a1]) G dX9_takeOther_26 wY_X9_isTorn wM_X9_113 wI_X9_isTorn wS_X9_isTorn (tk_rm hR (by decide) (by decide)) kX9 k0 (by decide) (c_X9_isTorn E (tkup x17.2 a0 14 x17.1) a0 a1 k0) rfl rfl (Nat.le_of_ble_eq_true rfl) ⟨Nat.zero_le _, Nat.zero_le _⟩ (fun x26 => ?_)
  refine s_pz G kX9 dX9_takeOther_29 wF_X9_133 k0 gP_9_15 (fun u29 => ?_)
  exact s_vret G dX9_takeOther_32
theorem c_X9_takeOther (E : tkE) (h : tkH) (a0 : Nat) (a1 : Int32) (k0 : kd a0 = 12) : ∀ x, f_X9_takeOther h a0 a1 = some x → tkM E yX9_takeOther cX9_takeOther 2 none 3 tkF [.ref (e_ad E a0), .int a1] h none x := fun x hx => tkM_of (by decide) (Nat.le_of_ble_eq_true rfl) (fun _ hR G => w_X9_takeOther hR G h a0 a1 k0 x hx)
set_option maxRecDepth 100000 in
set_option maxHeartbeats 4000000 in
theorem w_X9_told {E : tkE} {X : tkX} (hR : x_R X = tkR 3) (G : tkG E X cX9_told 3 RX9 (some .int)) (h : tkH) (a0 : Nat) (a1 : Int32) (a2 : Int32) (k0 : kd a0 = 12) : tkS E X 3 0 0 (tkZi E X) 0 [(0, .ref (e_ad E a0)), (1, .int a1), (2, .int a2)] [] h (f_X9_told h a0 a1 a2) := by
  unfold f_X9_told
  refine s_v (fun _ k => tk_aload_n G dX9_told_0 0 rfl (tk_iload_n G dX9_told_1 1 rfl k)) ?_
  refine s_callVI (As := [.int a1]) G dX9_told_2 wY_X9_isTale wM_X9_71 wI_X9_isTale wS_X9_isTale (tk_rm hR (by decide) (by decide)) kX9 k0 (by decide) (c_X9_isTale E h a0 a1 k0) rfl rfl (Nat.le_of_ble_eq_true rfl) ⟨Nat.zero_le _, Nat.zero_le _⟩ (fun x2 => ?_)
  have hJ17 : ∀ (g17 : tkH), tkS E X 3 0 0 (tkZi E X) 17 [(0, .ref (e_ad E a0))] [] g17 (f_X9_told_J17 a0 g17) := by
    intro g17
    unfold f_X9_told_J17
    refine s_v (fun _ k => tk_aload_n G dX9_told_17 0 rfl (tk_ldc G dX9_told_18 wK_X9_66 k)) ?_
    refine s_callVI (As := [.int (-100001)]) G dX9_told_20 wY_X9_finding wM_X9_58 wI_X9_finding wS_X9_finding (tk_rm hR (by decide) (by decide)) kX9 k0 (by decide) (c_X9_finding E g17 a0 (-100001) k0) rfl rfl (Nat.le_of_ble_eq_true rfl) ⟨Nat.zero_le _, Nat.zero_le _⟩ (fun x20 => ?_)
    exact s_iret G dX9_told_23
  refine s_if_eq (tgt := 17) G dX9_told_5 (by decide) (fun q5 => ?_) (fun q5 => ?_)
  ·
    refine s_sub [0] (al' := [(0, .ref (e_ad E a0))]) rfl ?_
    exact hJ17 _
  ·
    refine s_v (fun _ k => tk_iload_n G dX9_told_8 2 rfl (tk_iconst G dX9_told_9 cI_0 (tk_iconst G dX9_told_10 cI_5 k))) ?_
    refine s_callSI (As := [.int a2, .int 0, .int 5]) G dX9_told_11 wY_X9_within wM_X9_50 wI_X9_within (tk_rm hR (by decide) (by decide)) (c_X9_within E x2.2 a2 0 5) rfl rfl (Nat.le_of_ble_eq_true rfl) ⟨Nat.zero_le _, Nat.zero_le _⟩ (fun x11 => ?_)
    refine s_if_ne (tgt := 24) G dX9_told_14 (by decide) (fun q14 => ?_) (fun q14 => ?_)
    ·
      refine s_sub [0] (al' := [(0, .ref (e_ad E a0))]) rfl ?_
      exact hJ17 _
    ·
      refine s_v (fun _ k => tk_iload_n G dX9_told_24 2 rfl (tk_iconst G dX9_told_25 cI_4 k)) ?_
      refine s_icmp_ne (tgt := 43) G dX9_told_26 (by decide) (fun q26 => ?_) (fun q26 => ?_)
      ·
        refine s_v (fun _ k => tk_aload_n G dX9_told_29 0 rfl (tk_iload_n G dX9_told_30 1 rfl k)) ?_
        refine s_callVI (As := [.int a1]) G dX9_told_31 wY_X9_laidTo wM_X9_99 wI_X9_laidTo wS_X9_laidTo (tk_rm hR (by decide) (by decide)) kX9 k0 (by decide) (c_X9_laidTo E x11.2 a0 a1 k0) rfl rfl (Nat.le_of_ble_eq_true rfl) ⟨Nat.zero_le _, Nat.zero_le _⟩ (fun x31 => ?_)
        refine s_v (fun _ k => tk_aload_n G dX9_told_34 0 rfl (tk_iload_n G dX9_told_35 1 rfl k)) ?_
        refine s_callVI (As := [.int a1]) G dX9_told_36 wY_X9_laidFrom wM_X9_96 wI_X9_laidFrom wS_X9_laidFrom (tk_rm hR (by decide) (by decide)) kX9 k0 (by decide) (c_X9_laidFrom E x31.2 a0 a1 k0) rfl rfl (Nat.le_of_ble_eq_true rfl) ⟨Nat.zero_le _, Nat.zero_le _⟩ (fun x36 => ?_)
        refine s_v (fun _ k => tk_isub G dX9_told_39 (tk_goto (tgt := 74) G dX9_told_40 (by decide) k)) ?_
        exact s_iret G dX9_told_74
      ·
        refine s_v (fun _ k => tk_iload_n G dX9_told_43 2 rfl (tk_iconst G dX9_told_44 cI_5 k)) ?_
        refine s_icmp_ne (tgt := 60) G dX9_told_45 (by decide) (fun q45 => ?_) (fun q45 => ?_)
        ·
          refine s_v (fun _ k => tk_aload_n G dX9_told_48 0 rfl (tk_gr G kX9 dX9_told_49 wF_X9_9 k0 gR_9_0 (tk_bipush G dX9_told_52 cB_80 (tk_iload_n G dX9_told_54 1 rfl (tk_iadd G dX9_told_55 k))))) ?_
          refine s_iald G dX9_told_56 (kF_9_0 k0) (fun v56 => ?_)
          refine s_v (fun _ k => tk_goto (tgt := 74) G dX9_told_57 (by decide) k) ?_
          exact s_iret G dX9_told_74
        ·
          refine s_v (fun _ k => tk_aload_n G dX9_told_60 0 rfl (tk_gr G kX9 dX9_told_61 wF_X9_9 k0 gR_9_0 (tk_bipush G dX9_told_64 cB_40 (tk_bipush G dX9_told_66 cB_10 (tk_iload_n G dX9_told_68 2 rfl (tk_imul G dX9_told_69 (tk_iadd G dX9_told_70 (tk_iload_n G dX9_told_71 1 rfl (tk_iadd G dX9_told_72 k))))))))) ?_
          refine s_iald G dX9_told_73 (kF_9_0 k0) (fun v73 => ?_)
          exact s_iret G dX9_told_74
theorem c_X9_told (E : tkE) (h : tkH) (a0 : Nat) (a1 : Int32) (a2 : Int32) (k0 : kd a0 = 12) : ∀ x, f_X9_told h a0 a1 a2 = some x → tkM E yX9_told cX9_told 3 (some .int) 3 tkF [.ref (e_ad E a0), .int a1, .int a2] h (some (.int x.1)) x.2 := fun x hx => tkM_of (by decide) (Nat.le_of_ble_eq_true rfl) (fun _ hR G => w_X9_told hR G h a0 a1 a2 k0 x hx)
set_option maxRecDepth 100000 in
set_option maxHeartbeats 4000000 in
theorem w_X2_pairTales {E : tkE} {X : tkX} (hR : x_R X = tkR 4) (G : tkG E X cX2_pairTales 4 RX2 (some (.object "TaleDesk$Laying"))) (h : tkH) (a0 : Nat) (a1 : Nat) (a2 : Int32) (a3 : Int32) (k0 : kd a0 = 5) (k1 : kd a1 = 3) : tkS E X 4 0 0 (tkZa E X) 0 [(0, .ref (e_ad E a0)), (1, .ref (e_ad E a1)), (2, .int a2), (3, .int a3)] [] h (f_X2_pairTales h a0 a1 a2 a3) := by
  unfold f_X2_pairTales
  refine s_v (fun _ k => tk_aload_n G dX2_pairTales_0 0 rfl (tk_aload_n G dX2_pairTales_1 1 rfl (tk_iload_n G dX2_pairTales_2 2 rfl (tk_iload_n G dX2_pairTales_3 3 rfl k)))) ?_
  refine s_callVA (As := [.ref (e_ad E a1), .int a2, .int a3]) G dX2_pairTales_4 wY_X2_layTales wM_X2_65 wI_X2_layTales wS_X2_layTales (tk_rm hR (by decide) (by decide)) kX2 k0 (by decide) (c_X2_layTales E h a0 a1 a2 a3 k0 k1) rfl rfl (Nat.le_of_ble_eq_true rfl) ⟨Nat.zero_le _, Nat.zero_le _⟩ (fun x4 => ?_)
  refine s_gk (fun kx4 => ?_)
  refine s_v (fun _ k => tk_pop G dX2_pairTales_7 rfl (tk_aload_n G dX2_pairTales_8 0 rfl (tk_gr G kX2 dX2_pairTales_9 wF_X2_12 k0 gR_2_0 k))) ?_
  refine s_callVV (As := []) G dX2_pairTales_12 wY_X4_findPairs wM_X2_69 wI_X4_findPairs wS_X4_findPairs (tk_rm hR (by decide) (by decide)) kX4 (kF_2_0 k0) (by decide) (c_X4_findPairs E x4.2 (fld a0 0) (kF_2_0 k0)) rfl rfl (Nat.le_of_ble_eq_true rfl) ⟨Nat.zero_le _, Nat.zero_le _⟩ (fun x12 => ?_)
  refine s_v (fun _ k => tk_aload_n G dX2_pairTales_15 0 rfl (tk_gr G kX2 dX2_pairTales_16 wF_X2_12 k0 gR_2_0 k)) ?_
  exact s_aret G dX2_pairTales_19
theorem c_X2_pairTales (E : tkE) (h : tkH) (a0 : Nat) (a1 : Nat) (a2 : Int32) (a3 : Int32) (k0 : kd a0 = 5) (k1 : kd a1 = 3) : ∀ x, f_X2_pairTales h a0 a1 a2 a3 = some x → tkM E yX2_pairTales cX2_pairTales 4 (some (.object "TaleDesk$Laying")) 4 tkF [.ref (e_ad E a0), .ref (e_ad E a1), .int a2, .int a3] h (some (.ref (e_ad E x.1))) x.2 := fun x hx => tkM_of (by decide) (Nat.le_of_ble_eq_true rfl) (fun _ hR G => w_X2_pairTales hR G h a0 a1 a2 a3 k0 k1 x hx)
set_option maxRecDepth 100000 in
set_option maxHeartbeats 4000000 in
theorem w_X2_reckonHeap {E : tkE} {X : tkX} (hR : x_R X = tkR 4) (G : tkG E X cX2_reckonHeap 5 RX2 none) (h : tkH) (a0 : Nat) (a1 : Nat) (a2 : Int32) (k0 : kd a0 = 5) (k1 : kd a1 = 3) : tkS E X 5 0 0 (tkZv E X) 0 [(0, .ref (e_ad E a0)), (1, .ref (e_ad E a1)), (2, .int a2)] [] h (f_X2_reckonHeap h a0 a1 a2) := by
  unfold f_X2_reckonHeap
  refine s_v (fun _ k => tk_iconst G dX2_reckonHeap_0 cI_0 (tk_istore_n (al' := [(3, .int 0), (0, .ref (e_ad E a0)), (1, .ref (e_ad E a1)), (2, .int a2)]) G dX2_reckonHeap_1 (by decide) rfl k)) ?_
  refine s_sub [1, 2, 3, 0] (al' := [(0, .ref (e_ad E a0)), (1, .ref (e_ad E a1)), (2, .int a2), (3, .int 0)]) rfl ?_
  unfold f_X2_reckonHeap_L2
  refine s_lp1 (al := fun y2_3 => [(0, .ref (e_ad E a0)), (1, .ref (e_ad E a1)), (2, .int a2), (3, .int y2_3)]) (fun kk2 hL2 g2 y2_3 => ?_) _ _ _
  refine s_v (fun _ k => tk_iload_n G dX2_reckonHeap_2 3 rfl (tk_aload_n G dX2_reckonHeap_3 1 rfl (tk_gi G kX0 dX2_reckonHeap_4 wF_X2_54 k1 gI_0_0 k))) ?_
  refine s_icmp_ge (tgt := 60) G dX2_reckonHeap_7 (by decide) (fun q7 => ?_) (fun q7 => ?_)
  ·
    exact s_vret G dX2_reckonHeap_60
  ·
    refine s_v (fun _ k => tk_iload_n G dX2_reckonHeap_10 3 rfl (tk_istore (al' := [(4, .int y2_3), (0, .ref (e_ad E a0)), (1, .ref (e_ad E a1)), (2, .int a2), (3, .int y2_3)]) G dX2_reckonHeap_11 (by decide) rfl k)) ?_
    have hX54 : ∀ (gz54 : tkH), tkS E X 5 0 0 (tkZv E X) 54 [(0, .ref (e_ad E a0)), (1, .ref (e_ad E a1)), (2, .int a2), (3, .int y2_3)] [] gz54 (kk2 gz54 (y2_3 + 1)) := by
      intro gz54
      refine s_v (fun _ k => tk_iinc (al' := [(3, .int (y2_3 + 1)), (0, .ref (e_ad E a0)), (1, .ref (e_ad E a1)), (2, .int a2)]) G dX2_reckonHeap_54 3 rfl (ci_1 _) (by decide) rfl (tk_goto (tgt := 2) G dX2_reckonHeap_57 (by decide) k)) ?_
      refine s_sub [1, 2, 3, 0] (al' := [(0, .ref (e_ad E a0)), (1, .ref (e_ad E a1)), (2, .int a2), (3, .int (y2_3 + 1))]) rfl ?_
      exact hL2 _ _
    refine s_sub [1, 2, 3, 4, 0] (al' := [(0, .ref (e_ad E a0)), (1, .ref (e_ad E a1)), (2, .int a2), (3, .int y2_3), (4, .int y2_3)]) rfl ?_
    unfold f_X2_reckonHeap_L13
    refine s_lp1 (al := fun y13_4 => [(0, .ref (e_ad E a0)), (1, .ref (e_ad E a1)), (2, .int a2), (3, .int y2_3), (4, .int y13_4)]) (fun kk13 hL13 g13 y13_4 => ?_) _ _ _
    refine s_v (fun _ k => tk_iload G dX2_reckonHeap_13 4 rfl (tk_aload_n G dX2_reckonHeap_15 1 rfl (tk_gi G kX0 dX2_reckonHeap_16 wF_X2_54 k1 gI_0_0 k))) ?_
    refine s_icmp_ge (tgt := 54) G dX2_reckonHeap_19 (by decide) (fun q19 => ?_) (fun q19 => ?_)
    ·
      refine s_sub [0, 1, 2, 3] (al' := [(0, .ref (e_ad E a0)), (1, .ref (e_ad E a1)), (2, .int a2), (3, .int y2_3)]) rfl ?_
      exact hX54 _
    ·
      refine s_v (fun _ k => tk_iload_n G dX2_reckonHeap_22 2 rfl (tk_iload_n G dX2_reckonHeap_23 3 rfl k)) ?_
      refine s_callSNI (As := [.int a2, .int y2_3]) G dX2_reckonHeap_24 wY_X8_isInHeap wM_X2_57 wI_X8_isInHeap (tk_rm hR (by decide) (by decide)) (c_X8_isInHeap E g13 a2 y2_3) rfl rfl (Nat.le_of_ble_eq_true rfl) ⟨Nat.zero_le _, Nat.zero_le _⟩ (fun x24 => ?_)
      refine s_if_eq (tgt := 48) G dX2_reckonHeap_27 (by decide) (fun q27 => ?_) (fun q27 => ?_)
      ·
        refine s_v (fun _ k => tk_iinc (al' := [(4, .int (y13_4 + 1)), (0, .ref (e_ad E a0)), (1, .ref (e_ad E a1)), (2, .int a2), (3, .int y2_3)]) G dX2_reckonHeap_48 4 rfl (ci_1 _) (by decide) rfl (tk_goto (tgt := 13) G dX2_reckonHeap_51 (by decide) k)) ?_
        refine s_sub [1, 2, 3, 4, 0] (al' := [(0, .ref (e_ad E a0)), (1, .ref (e_ad E a1)), (2, .int a2), (3, .int y2_3), (4, .int (y13_4 + 1))]) rfl ?_
        exact hL13 _ _
      ·
        refine s_v (fun _ k => tk_iload_n G dX2_reckonHeap_30 2 rfl (tk_iload G dX2_reckonHeap_31 4 rfl k)) ?_
        refine s_callSNI (As := [.int a2, .int y13_4]) G dX2_reckonHeap_33 wY_X8_isInHeap wM_X2_57 wI_X8_isInHeap (tk_rm hR (by decide) (by decide)) (c_X8_isInHeap E x24.2 a2 y13_4) rfl rfl (Nat.le_of_ble_eq_true rfl) ⟨Nat.zero_le _, Nat.zero_le _⟩ (fun x33 => ?_)
        refine s_if_eq (tgt := 48) G dX2_reckonHeap_36 (by decide) (fun q36 => ?_) (fun q36 => ?_)
        ·
          refine s_v (fun _ k => tk_iinc (al' := [(4, .int (y13_4 + 1)), (0, .ref (e_ad E a0)), (1, .ref (e_ad E a1)), (2, .int a2), (3, .int y2_3)]) G dX2_reckonHeap_48 4 rfl (ci_1 _) (by decide) rfl (tk_goto (tgt := 13) G dX2_reckonHeap_51 (by decide) k)) ?_
          refine s_sub [1, 2, 3, 4, 0] (al' := [(0, .ref (e_ad E a0)), (1, .ref (e_ad E a1)), (2, .int a2), (3, .int y2_3), (4, .int (y13_4 + 1))]) rfl ?_
          exact hL13 _ _
        ·
          refine s_v (fun _ k => tk_aload_n G dX2_reckonHeap_39 0 rfl (tk_aload_n G dX2_reckonHeap_40 1 rfl (tk_iload_n G dX2_reckonHeap_41 3 rfl (tk_iload G dX2_reckonHeap_42 4 rfl k)))) ?_
          refine s_callVI (As := [.ref (e_ad E a1), .int y2_3, .int y13_4]) G dX2_reckonHeap_44 wY_X2_between wM_X2_61 wI_X2_between wS_X2_between (tk_rm hR (by decide) (by decide)) kX2 k0 (by decide) (c_X2_between E x33.2 a0 a1 y2_3 y13_4 k0 k1) rfl rfl (Nat.le_of_ble_eq_true rfl) ⟨Nat.zero_le _, Nat.zero_le _⟩ (fun x44 => ?_)
          refine s_v (fun _ k => tk_pop G dX2_reckonHeap_47 rfl (tk_iinc (al' := [(4, .int (y13_4 + 1)), (0, .ref (e_ad E a0)), (1, .ref (e_ad E a1)), (2, .int a2), (3, .int y2_3)]) G dX2_reckonHeap_48 4 rfl (ci_1 _) (by decide) rfl (tk_goto (tgt := 13) G dX2_reckonHeap_51 (by decide) k))) ?_
          refine s_sub [1, 2, 3, 4, 0] (al' := [(0, .ref (e_ad E a0)), (1, .ref (e_ad E a1)), (2, .int a2), (3, .int y2_3), (4, .int (y13_4 + 1))]) rfl ?_
          exact hL13 _ _
theorem c_X2_reckonHeap (E : tkE) (h : tkH) (a0 : Nat) (a1 : Nat) (a2 : Int32) (k0 : kd a0 = 5) (k1 : kd a1 = 3) : ∀ x, f_X2_reckonHeap h a0 a1 a2 = some x → tkM E yX2_reckonHeap cX2_reckonHeap 5 none 4 tkF [.ref (e_ad E a0), .ref (e_ad E a1), .int a2] h none x := fun x hx => tkM_of (by decide) (Nat.le_of_ble_eq_true rfl) (fun _ hR G => w_X2_reckonHeap hR G h a0 a1 a2 k0 k1 x hx)
set_option maxRecDepth 100000 in
set_option maxHeartbeats 4000000 in
theorem w_X8_borrowed {E : tkE} {X : tkX} (hR : x_R X = tkR 4) (G : tkG E X cX8_borrowed 4 RX8 (some .int)) (h : tkH) (a0 : Nat) (a1 : Int32) (a2 : Int32) (a3 : Int32) (k0 : kd a0 = 11) : tkS E X 4 0 0 (tkZi E X) 0 [(0, .ref (e_ad E a0)), (1, .int a1), (2, .int a2), (3, .int a3)] [] h (f_X8_borrowed h a0 a1 a2 a3) := by
  unfold f_X8_borrowed
  refine s_v (fun _ k => tk_aload_n G dX8_borrowed_0 0 rfl (tk_gr G kX8 dX8_borrowed_1 wF_X8_10 k0 gR_8_0 (tk_iload_n G dX8_borrowed_4 1 rfl k))) ?_
  refine s_callVI (As := [.int a1]) G dX8_borrowed_5 wY_X0_hasTale wM_X8_76 wI_X0_hasTale wS_X0_hasTale (tk_rm hR (by decide) (by decide)) kX0 (kF_8_0 k0) (by decide) (c_X0_hasTale E h (fld a0 0) a1 (kF_8_0 k0)) rfl rfl (Nat.le_of_ble_eq_true rfl) ⟨Nat.zero_le _, Nat.zero_le _⟩ (fun x5 => ?_)
  have hJ30 : ∀ (g30 : tkH), tkS E X 4 0 0 (tkZi E X) 30 [(0, .ref (e_ad E a0))] [] g30 (f_X8_borrowed_J30 a0 g30) := by
    intro g30
    unfold f_X8_borrowed_J30
    refine s_v (fun _ k => tk_aload_n G dX8_borrowed_30 0 rfl (tk_ldc G dX8_borrowed_31 wK_X8_59 k)) ?_
    refine s_callVI (As := [.int (-100001)]) G dX8_borrowed_33 wY_X8_finding wM_X8_60 wI_X8_finding wS_X8_finding (tk_rm hR (by decide) (by decide)) kX8 k0 (by decide) (c_X8_finding E g30 a0 (-100001) k0) rfl rfl (Nat.le_of_ble_eq_true rfl) ⟨Nat.zero_le _, Nat.zero_le _⟩ (fun x33 => ?_)
    exact s_iret G dX8_borrowed_36
  refine s_if_eq (tgt := 30) G dX8_borrowed_8 (by decide) (fun q8 => ?_) (fun q8 => ?_)
  ·
    refine s_sub [0] (al' := [(0, .ref (e_ad E a0))]) rfl ?_
    exact hJ30 _
  ·
    refine s_v (fun _ k => tk_aload_n G dX8_borrowed_11 0 rfl (tk_gr G kX8 dX8_borrowed_12 wF_X8_10 k0 gR_8_0 (tk_iload_n G dX8_borrowed_15 2 rfl k))) ?_
    refine s_callVI (As := [.int a2]) G dX8_borrowed_16 wY_X0_hasTale wM_X8_76 wI_X0_hasTale wS_X0_hasTale (tk_rm hR (by decide) (by decide)) kX0 (kF_8_0 k0) (by decide) (c_X0_hasTale E x5.2 (fld a0 0) a2 (kF_8_0 k0)) rfl rfl (Nat.le_of_ble_eq_true rfl) ⟨Nat.zero_le _, Nat.zero_le _⟩ (fun x16 => ?_)
    refine s_if_eq (tgt := 30) G dX8_borrowed_19 (by decide) (fun q19 => ?_) (fun q19 => ?_)
    ·
      refine s_sub [0] (al' := [(0, .ref (e_ad E a0))]) rfl ?_
      exact hJ30 _
    ·
      refine s_v (fun _ k => tk_iload_n G dX8_borrowed_22 3 rfl (tk_iconst G dX8_borrowed_23 cI_3 k)) ?_
      refine s_callSI (As := [.int a3, .int 3]) G dX8_borrowed_24 wY_X8_isWithin wM_X8_55 wI_X8_isWithin (tk_rm hR (by decide) (by decide)) (c_X8_isWithin E x16.2 a3 3) rfl rfl (Nat.le_of_ble_eq_true rfl) ⟨Nat.zero_le _, Nat.zero_le _⟩ (fun x24 => ?_)
      refine s_if_ne (tgt := 37) G dX8_borrowed_27 (by decide) (fun q27 => ?_) (fun q27 => ?_)
      ·
        refine s_sub [0] (al' := [(0, .ref (e_ad E a0))]) rfl ?_
        exact hJ30 _
      ·
        refine s_v (fun _ k => tk_aload_n G dX8_borrowed_37 0 rfl (tk_gr G kX8 dX8_borrowed_38 wF_X8_40 k0 gR_8_4 (tk_aload_n G dX8_borrowed_41 0 rfl (tk_gr G kX8 dX8_borrowed_42 wF_X8_10 k0 gR_8_0 (tk_iload_n G dX8_borrowed_45 1 rfl (tk_iload_n G dX8_borrowed_46 2 rfl k)))))) ?_
        refine s_callVV (As := [.ref (e_ad E (fld a0 0)), .int a1, .int a2]) G dX8_borrowed_47 wY_X1_find wM_X8_221 wI_X1_find wS_X1_find (tk_rm hR (by decide) (by decide)) kX1 (kF_8_4 k0) (by decide) (c_X1_find E x24.2 (fld a0 4) (fld a0 0) a1 a2 (kF_8_4 k0) (kF_8_0 k0)) rfl rfl (Nat.le_of_ble_eq_true rfl) ⟨Nat.zero_le _, Nat.zero_le _⟩ (fun x47 => ?_)
        refine s_v (fun _ k => tk_iload_n G dX8_borrowed_50 3 rfl k) ?_
        refine s_if_ne (tgt := 62) G dX8_borrowed_51 (by decide) (fun q51 => ?_) (fun q51 => ?_)
        ·
          refine s_v (fun _ k => tk_aload_n G dX8_borrowed_54 0 rfl (tk_gr G kX8 dX8_borrowed_55 wF_X8_40 k0 gR_8_4 (tk_gi G kX1 dX8_borrowed_58 wF_X8_225 (kF_8_4 k0) gI_1_2 k))) ?_
          exact s_iret G dX8_borrowed_61
        ·
          refine s_v (fun _ k => tk_aload_n G dX8_borrowed_62 0 rfl (tk_gr G kX8 dX8_borrowed_63 wF_X8_40 k0 gR_8_4 (tk_gi G kX1 dX8_borrowed_66 wF_X8_225 (kF_8_4 k0) gI_1_2 k))) ?_
          refine s_if_ne (tgt := 79) G dX8_borrowed_69 (by decide) (fun q69 => ?_) (fun q69 => ?_)
          ·
            refine s_v (fun _ k => tk_aload_n G dX8_borrowed_72 0 rfl (tk_ldc G dX8_borrowed_73 wK_X8_106 k)) ?_
            refine s_callVI (As := [.int (-100006)]) G dX8_borrowed_75 wY_X8_finding wM_X8_60 wI_X8_finding wS_X8_finding (tk_rm hR (by decide) (by decide)) kX8 k0 (by decide) (c_X8_finding E x47 a0 (-100006) k0) rfl rfl (Nat.le_of_ble_eq_true rfl) ⟨Nat.zero_le _, Nat.zero_le _⟩ (fun x75 => ?_)
            exact s_iret G dX8_borrowed_78
          ·
            refine s_v (fun _ k => tk_iload_n G dX8_borrowed_79 3 rfl (tk_iconst G dX8_borrowed_80 cI_1 k)) ?_
            refine s_icmp_ne (tgt := 94) G dX8_borrowed_81 (by decide) (fun q81 => ?_) (fun q81 => ?_)
            ·
              refine s_v (fun _ k => tk_aload_n G dX8_borrowed_84 0 rfl (tk_gr G kX8 dX8_borrowed_85 wF_X8_40 k0 gR_8_4 (tk_gi G kX1 dX8_borrowed_88 wF_X8_228 (kF_8_4 k0) gI_1_3 (tk_goto (tgt := 101) G dX8_borrowed_91 (by decide) k)))) ?_
              exact s_iret G dX8_borrowed_101
            ·
              refine s_v (fun _ k => tk_aload_n G dX8_borrowed_94 0 rfl (tk_gr G kX8 dX8_borrowed_95 wF_X8_40 k0 gR_8_4 (tk_gi G kX1 dX8_borrowed_98 wF_X8_231 (kF_8_4 k0) gI_1_4 k))) ?_
              exact s_iret G dX8_borrowed_101
theorem c_X8_borrowed (E : tkE) (h : tkH) (a0 : Nat) (a1 : Int32) (a2 : Int32) (a3 : Int32) (k0 : kd a0 = 11) : ∀ x, f_X8_borrowed h a0 a1 a2 a3 = some x → tkM E yX8_borrowed cX8_borrowed 4 (some .int) 4 tkF [.ref (e_ad E a0), .int a1, .int a2, .int a3] h (some (.int x.1)) x.2 := fun x hx => tkM_of (by decide) (Nat.le_of_ble_eq_true rfl) (fun _ hR G => w_X8_borrowed hR G h a0 a1 a2 a3 k0 x hx)
set_option maxRecDepth 100000 in
set_option maxHeartbeats 4000000 in
theorem w_X8_carried {E : tkE} {X : tkX} (hR : x_R X = tkR 4) (G : tkG E X cX8_carried 4 RX8 (some .int)) (h : tkH) (a0 : Nat) (a1 : Int32) (a2 : Int32) (a3 : Int32) (k0 : kd a0 = 11) : tkS E X 4 0 0 (tkZi E X) 0 [(0, .ref (e_ad E a0)), (1, .int a1), (2, .int a2), (3, .int a3)] [] h (f_X8_carried h a0 a1 a2 a3) := by
  unfold f_X8_carried
  refine s_v (fun _ k => tk_aload_n G dX8_carried_0 0 rfl (tk_gr G kX8 dX8_carried_1 wF_X8_10 k0 gR_8_0 (tk_iload_n G dX8_carried_4 1 rfl k))) ?_
  refine s_callVI (As := [.int a1]) G dX8_carried_5 wY_X0_hasTale wM_X8_76 wI_X0_hasTale wS_X0_hasTale (tk_rm hR (by decide) (by decide)) kX0 (kF_8_0 k0) (by decide) (c_X0_hasTale E h (fld a0 0) a1 (kF_8_0 k0)) rfl rfl (Nat.le_of_ble_eq_true rfl) ⟨Nat.zero_le _, Nat.zero_le _⟩ (fun x5 => ?_)
  have hJ30 : ∀ (g30 : tkH), tkS E X 4 0 0 (tkZi E X) 30 [(0, .ref (e_ad E a0))] [] g30 (f_X8_carried_J30 a0 g30) := by
    intro g30
    unfold f_X8_carried_J30
    refine s_v (fun _ k => tk_aload_n G dX8_carried_30 0 rfl (tk_ldc G dX8_carried_31 wK_X8_59 k)) ?_
    refine s_callVI (As := [.int (-100001)]) G dX8_carried_33 wY_X8_finding wM_X8_60 wI_X8_finding wS_X8_finding (tk_rm hR (by decide) (by decide)) kX8 k0 (by decide) (c_X8_finding E g30 a0 (-100001) k0) rfl rfl (Nat.le_of_ble_eq_true rfl) ⟨Nat.zero_le _, Nat.zero_le _⟩ (fun x33 => ?_)
    exact s_iret G dX8_carried_36
  refine s_if_eq (tgt := 30) G dX8_carried_8 (by decide) (fun q8 => ?_) (fun q8 => ?_)
  ·
    refine s_sub [0] (al' := [(0, .ref (e_ad E a0))]) rfl ?_
    exact hJ30 _
  ·
    refine s_v (fun _ k => tk_aload_n G dX8_carried_11 0 rfl (tk_gr G kX8 dX8_carried_12 wF_X8_10 k0 gR_8_0 (tk_iload_n G dX8_carried_15 2 rfl k))) ?_
    refine s_callVI (As := [.int a2]) G dX8_carried_16 wY_X0_hasTale wM_X8_76 wI_X0_hasTale wS_X0_hasTale (tk_rm hR (by decide) (by decide)) kX0 (kF_8_0 k0) (by decide) (c_X0_hasTale E x5.2 (fld a0 0) a2 (kF_8_0 k0)) rfl rfl (Nat.le_of_ble_eq_true rfl) ⟨Nat.zero_le _, Nat.zero_le _⟩ (fun x16 => ?_)
    refine s_if_eq (tgt := 30) G dX8_carried_19 (by decide) (fun q19 => ?_) (fun q19 => ?_)
    ·
      refine s_sub [0] (al' := [(0, .ref (e_ad E a0))]) rfl ?_
      exact hJ30 _
    ·
      refine s_v (fun _ k => tk_iload_n G dX8_carried_22 3 rfl (tk_iconst G dX8_carried_23 cI_4 k)) ?_
      refine s_callSI (As := [.int a3, .int 4]) G dX8_carried_24 wY_X8_isWithin wM_X8_55 wI_X8_isWithin (tk_rm hR (by decide) (by decide)) (c_X8_isWithin E x16.2 a3 4) rfl rfl (Nat.le_of_ble_eq_true rfl) ⟨Nat.zero_le _, Nat.zero_le _⟩ (fun x24 => ?_)
      refine s_if_ne (tgt := 37) G dX8_carried_27 (by decide) (fun q27 => ?_) (fun q27 => ?_)
      ·
        refine s_sub [0] (al' := [(0, .ref (e_ad E a0))]) rfl ?_
        exact hJ30 _
      ·
        refine s_v (fun _ k => tk_aload_n G dX8_carried_37 0 rfl (tk_gr G kX8 dX8_carried_38 wF_X8_26 k0 gR_8_2 (tk_aload_n G dX8_carried_41 0 rfl (tk_gr G kX8 dX8_carried_42 wF_X8_10 k0 gR_8_0 (tk_iload_n G dX8_carried_45 1 rfl (tk_iload_n G dX8_carried_46 2 rfl k)))))) ?_
        refine s_callVA (As := [.ref (e_ad E (fld a0 0)), .int a1, .int a2]) G dX8_carried_47 wY_X2_layTales wM_X8_160 wI_X2_layTales wS_X2_layTales (tk_rm hR (by decide) (by decide)) kX2 (kF_8_2 k0) (by decide) (c_X2_layTales E x24.2 (fld a0 2) (fld a0 0) a1 a2 (kF_8_2 k0) (kF_8_0 k0)) rfl rfl (Nat.le_of_ble_eq_true rfl) ⟨Nat.zero_le _, Nat.zero_le _⟩ (fun x47 => ?_)
        refine s_gk (fun kx47 => ?_)
        refine s_v (fun _ k => tk_gi G kX4 dX8_carried_50 wF_X8_164 kx47 gI_4_9 (tk_iload_n G dX8_carried_53 3 rfl k)) ?_
        refine s_callSI (As := [.int ((x47.2) x47.1 9), .int a3]) G dX8_carried_54 wY_X8_goal wM_X8_169 wI_X8_goal (tk_rm hR (by decide) (by decide)) (c_X8_goal E x47.2 ((x47.2) x47.1 9) a3) rfl rfl (Nat.le_of_ble_eq_true rfl) ⟨Nat.zero_le _, Nat.zero_le _⟩ (fun x54 => ?_)
        exact s_iret G dX8_carried_57
theorem c_X8_carried (E : tkE) (h : tkH) (a0 : Nat) (a1 : Int32) (a2 : Int32) (a3 : Int32) (k0 : kd a0 = 11) : ∀ x, f_X8_carried h a0 a1 a2 a3 = some x → tkM E yX8_carried cX8_carried 4 (some .int) 4 tkF [.ref (e_ad E a0), .int a1, .int a2, .int a3] h (some (.int x.1)) x.2 := fun x hx => tkM_of (by decide) (Nat.le_of_ble_eq_true rfl) (fun _ hR G => w_X8_carried hR G h a0 a1 a2 a3 k0 x hx)
set_option maxRecDepth 100000 in
set_option maxHeartbeats 4000000 in
theorem w_X8_cheapestBeside {E : tkE} {X : tkX} (hR : x_R X = tkR 4) (G : tkG E X cX8_cheapestBeside 7 RX8 (some .int)) (h : tkH) (a0 : Nat) (a1 : Int32) (a2 : Int32) (k0 : kd a0 = 11) : tkS E X 7 0 0 (tkZi E X) 0 [(0, .ref (e_ad E a0)), (1, .int a1), (2, .int a2)] [] h (f_X8_cheapestBeside h a0 a1 a2) := by
  unfold f_X8_cheapestBeside
  refine s_v (fun _ k => tk_iconst G dX8_cheapestBeside_0 cI_m1 (tk_istore_n (al' := [(3, .int (-1)), (0, .ref (e_ad E a0)), (1, .int a1), (2, .int a2)]) G dX8_cheapestBeside_1 (by decide) rfl (tk_iconst G dX8_cheapestBeside_2 cI_0 (tk_istore (al' := [(4, .int 0), (3, .int (-1)), (0, .ref (e_ad E a0)), (1, .int a1), (2, .int a2)]) G dX8_cheapestBeside_3 (by decide) rfl (tk_iconst G dX8_cheapestBeside_5 cI_0 (tk_istore (al' := [(5, .int 0), (4, .int 0), (3, .int (-1)), (0, .ref (e_ad E a0)), (1, .int a1), (2, .int a2)]) G dX8_cheapestBeside_6 (by decide) rfl k)))))) ?_
  refine s_sub [3, 4, 5, 2, 1, 0] (al' := [(0, .ref (e_ad E a0)), (1, .int a1), (2, .int a2), (3, .int (-1)), (4, .int 0), (5, .int 0)]) rfl ?_
  unfold f_X8_cheapestBeside_L8
  refine s_lp3 (al := fun y8_3 y8_4 y8_5 => [(0, .ref (e_ad E a0)), (1, .int a1), (2, .int a2), (3, .int y8_3), (4, .int y8_4), (5, .int y8_5)]) (fun kk8 hL8 g8 y8_3 y8_4 y8_5 => ?_) _ _ _ _ _
  refine s_v (fun _ k => tk_iload G dX8_cheapestBeside_8 5 rfl (tk_aload_n G dX8_cheapestBeside_10 0 rfl (tk_gr G kX8 dX8_cheapestBeside_11 wF_X8_10 k0 gR_8_0 (tk_gi G kX0 dX8_cheapestBeside_14 wF_X8_64 (kF_8_0 k0) gI_0_0 k)))) ?_
  refine s_icmp_ge (tgt := 83) G dX8_cheapestBeside_17 (by decide) (fun q17 => ?_) (fun q17 => ?_)
  ·
    refine s_v (fun _ k => tk_iload_n G dX8_cheapestBeside_83 3 rfl k) ?_
    exact s_iret G dX8_cheapestBeside_84
  ·
    refine s_v (fun _ k => tk_iload G dX8_cheapestBeside_20 5 rfl (tk_iload_n G dX8_cheapestBeside_22 1 rfl k)) ?_
    refine s_icmp_eq (tgt := 77) G dX8_cheapestBeside_23 (by decide) (fun q23 => ?_) (fun q23 => ?_)
    ·
      refine s_v (fun _ k => tk_iinc (al' := [(5, .int (y8_5 + 1)), (0, .ref (e_ad E a0)), (1, .int a1), (2, .int a2), (3, .int y8_3), (4, .int y8_4)]) G dX8_cheapestBeside_77 5 rfl (ci_1 _) (by decide) rfl (tk_goto (tgt := 8) G dX8_cheapestBeside_80 (by decide) k)) ?_
      refine s_sub [1, 2, 3, 4, 5, 0] (al' := [(0, .ref (e_ad E a0)), (1, .int a1), (2, .int a2), (3, .int y8_3), (4, .int y8_4), (5, .int (y8_5 + 1))]) rfl ?_
      exact hL8 _ _ _ _
    ·
      refine s_v (fun _ k => tk_iload_n G dX8_cheapestBeside_26 2 rfl k) ?_
      have hJ43 : ∀ (g43 : tkH), tkS E X 7 0 0 (tkZi E X) 43 [(0, .ref (e_ad E a0)), (1, .int a1), (2, .int a2), (3, .int y8_3), (4, .int y8_4), (5, .int y8_5)] [] g43 (f_X8_cheapestBeside_J43 a0 y8_5 a1 y8_3 kk8 y8_4 g43) := by
        intro g43
        unfold f_X8_cheapestBeside_J43
        refine s_v (fun _ k => tk_aload_n G dX8_cheapestBeside_43 0 rfl (tk_gr G kX8 dX8_cheapestBeside_44 wF_X8_26 k0 gR_8_2 (tk_aload_n G dX8_cheapestBeside_47 0 rfl (tk_gr G kX8 dX8_cheapestBeside_48 wF_X8_10 k0 gR_8_0 (tk_iload G dX8_cheapestBeside_51 5 rfl (tk_iload_n G dX8_cheapestBeside_53 1 rfl k)))))) ?_
        refine s_callVI (As := [.ref (e_ad E (fld a0 0)), .int y8_5, .int a1]) G dX8_cheapestBeside_54 wY_X2_between wM_X8_156 wI_X2_between wS_X2_between (tk_rm hR (by decide) (by decide)) kX2 (kF_8_2 k0) (by decide) (c_X2_between E g43 (fld a0 2) (fld a0 0) y8_5 a1 (kF_8_2 k0) (kF_8_0 k0)) rfl rfl (Nat.le_of_ble_eq_true rfl) ⟨Nat.zero_le _, Nat.zero_le _⟩ (fun x54 => ?_)
        refine s_v (fun _ k => tk_istore (al' := [(6, .int x54.1), (0, .ref (e_ad E a0)), (1, .int a1), (2, .int a2), (3, .int y8_3), (4, .int y8_4), (5, .int y8_5)]) G dX8_cheapestBeside_57 (by decide) rfl (tk_iload_n G dX8_cheapestBeside_59 4 rfl k)) ?_
        have hJ70 : ∀ (g70 : tkH), tkS E X 7 0 0 (tkZi E X) 70 [(0, .ref (e_ad E a0)), (1, .int a1), (2, .int a2), (5, .int y8_5), (6, .int x54.1)] [] g70 (f_X8_cheapestBeside_J70 kk8 y8_5 x54 g70) := by
          intro g70
          unfold f_X8_cheapestBeside_J70
          refine s_v (fun _ k => tk_iload G dX8_cheapestBeside_70 3 rfl (tk_istore_n (al' := [(3, .int y8_5), (0, .ref (e_ad E a0)), (1, .int a1), (2, .int a2), (5, .int y8_5), (6, .int x54.1)]) G dX8_cheapestBeside_72 (by decide) rfl (tk_iload G dX8_cheapestBeside_73 5 rfl (tk_istore (al' := [(4, .int x54.1), (3, .int y8_5), (0, .ref (e_ad E a0)), (1, .int a1), (2, .int a2), (5, .int y8_5), (6, .int x54.1)]) G dX8_cheapestBeside_75 (by decide) rfl (tk_iinc (al' := [(5, .int (y8_5 + 1)), (4, .int x54.1), (3, .int y8_5), (0, .ref (e_ad E a0)), (1, .int a1), (2, .int a2), (6, .int x54.1)]) G dX8_cheapestBeside_77 5 rfl (ci_1 _) (by decide) rfl (tk_goto (tgt := 8) G dX8_cheapestBeside_80 (by decide) k)))))) ?_
          refine s_sub [3, 4, 5, 2, 1, 0] (al' := [(0, .ref (e_ad E a0)), (1, .int a1), (2, .int a2), (3, .int y8_5), (4, .int x54.1), (5, .int (y8_5 + 1))]) rfl ?_
          exact hL8 _ _ _ _
        refine s_if_lt (tgt := 70) G dX8_cheapestBeside_60 (by decide) (fun q60 => ?_) (fun q60 => ?_)
        ·
          refine s_sub [1, 2, 3, 6, 0] (al' := [(0, .ref (e_ad E a0)), (1, .int a1), (2, .int a2), (5, .int y8_5), (6, .int x54.1)]) rfl ?_
          exact hJ70 _
        ·
          refine s_v (fun _ k => tk_iload G dX8_cheapestBeside_63 0 rfl (tk_iload G dX8_cheapestBeside_65 5 rfl k)) ?_
          refine s_icmp_ge (tgt := 77) G dX8_cheapestBeside_67 (by decide) (fun q67 => ?_) (fun q67 => ?_)
          ·
            refine s_v (fun _ k => tk_iinc (al' := [(5, .int (y8_5 + 1)), (6, .int x54.1), (0, .ref (e_ad E a0)), (1, .int a1), (2, .int a2), (3, .int y8_3), (4, .int y8_4)]) G dX8_cheapestBeside_77 6 rfl (ci_1 _) (by decide) rfl (tk_goto (tgt := 8) G dX8_cheapestBeside_80 (by decide) k)) ?_
            refine s_sub [2, 3, 4, 5, 6, 0] (al' := [(0, .ref (e_ad E a0)), (1, .int a1), (2, .int a2), (3, .int y8_3), (4, .int y8_4), (5, .int (y8_5 + 1))]) rfl ?_
            exact hL8 _ _ _ _
          ·
            refine s_sub [1, 2, 3, 6, 0] (al' := [(0, .ref (e_ad E a0)), (1, .int a1), (2, .int a2), (5, .int y8_5), (6, .int x54.1)]) rfl ?_
            exact hJ70 _
      refine s_if_eq (tgt := 43) G dX8_cheapestBeside_27 (by decide) (fun q27 => ?_) (fun q27 => ?_)
      ·
        exact hJ43 _
      ·
        refine s_v (fun _ k => tk_aload_n G dX8_cheapestBeside_30 0 rfl (tk_gr G kX8 dX8_cheapestBeside_31 wF_X8_10 k0 gR_8_0 (tk_iload G dX8_cheapestBeside_34 5 rfl (tk_iload_n G dX8_cheapestBeside_36 1 rfl k)))) ?_
        refine s_callVI (As := [.int y8_5, .int a1]) G dX8_cheapestBeside_37 wY_X0_couldReach wM_X8_290 wI_X0_couldReach wS_X0_couldReach (tk_rm hR (by decide) (by decide)) kX0 (kF_8_0 k0) (by decide) (c_X0_couldReach E g8 (fld a0 0) y8_5 a1 (kF_8_0 k0)) rfl rfl (Nat.le_of_ble_eq_true rfl) ⟨Nat.zero_le _, Nat.zero_le _⟩ (fun x37 => ?_)
        refine s_if_eq (tgt := 77) G dX8_cheapestBeside_40 (by decide) (fun q40 => ?_) (fun q40 => ?_)
        ·
          refine s_v (fun _ k => tk_iinc (al' := [(5, .int (y8_5 + 1)), (0, .ref (e_ad E a0)), (1, .int a1), (2, .int a2), (3, .int y8_3), (4, .int y8_4)]) G dX8_cheapestBeside_77 5 rfl (ci_1 _) (by decide) rfl (tk_goto (tgt := 8) G dX8_cheapestBeside_80 (by decide) k)) ?_
          refine s_sub [1, 2, 3, 4, 5, 0] (al' := [(0, .ref (e_ad E a0)), (1, .int a1), (2, .int a2), (3, .int y8_3), (4, .int y8_4), (5, .int (y8_5 + 1))]) rfl ?_
          exact hL8 _ _ _ _
        ·
          exact hJ43 _
theorem c_X8_cheapestBeside (E : tkE) (h : tkH) (a0 : Nat) (a1 : Int32) (a2 : Int32) (k0 : kd a0 = 11) : ∀ x, f_X8_cheapestBeside h a0 a1 a2 = some x → tkM E yX8_cheapestBeside cX8_cheapestBeside 7 (some .int) 4 tkF [.ref (e_ad E a0), .int a1, .int a2] h (some (.int x.1)) x.2 := fun x hx => tkM_of (by decide) (Nat.le_of_ble_eq_true rfl) (fun _ hR G => w_X8_cheapestBeside hR G h a0 a1 a2 k0 x hx)
set_option maxRecDepth 100000 in
set_option maxHeartbeats 4000000 in
theorem w_X8_cost {E : tkE} {X : tkX} (hR : x_R X = tkR 4) (G : tkG E X cX8_cost 3 RX8 (some .int)) (h : tkH) (a0 : Nat) (a1 : Int32) (a2 : Int32) (k0 : kd a0 = 11) : tkS E X 3 0 0 (tkZi E X) 0 [(0, .ref (e_ad E a0)), (1, .int a1), (2, .int a2)] [] h (f_X8_cost h a0 a1 a2) := by
  unfold f_X8_cost
  refine s_v (fun _ k => tk_aload_n G dX8_cost_0 0 rfl (tk_gr G kX8 dX8_cost_1 wF_X8_10 k0 gR_8_0 (tk_iload_n G dX8_cost_4 1 rfl k))) ?_
  refine s_callVI (As := [.int a1]) G dX8_cost_5 wY_X0_hasTale wM_X8_76 wI_X0_hasTale wS_X0_hasTale (tk_rm hR (by decide) (by decide)) kX0 (kF_8_0 k0) (by decide) (c_X0_hasTale E h (fld a0 0) a1 (kF_8_0 k0)) rfl rfl (Nat.le_of_ble_eq_true rfl) ⟨Nat.zero_le _, Nat.zero_le _⟩ (fun x5 => ?_)
  have hJ22 : ∀ (g22 : tkH), tkS E X 3 0 0 (tkZi E X) 22 [(0, .ref (e_ad E a0))] [] g22 (f_X8_cost_J22 a0 g22) := by
    intro g22
    unfold f_X8_cost_J22
    refine s_v (fun _ k => tk_aload_n G dX8_cost_22 0 rfl (tk_ldc G dX8_cost_23 wK_X8_59 k)) ?_
    refine s_callVI (As := [.int (-100001)]) G dX8_cost_25 wY_X8_finding wM_X8_60 wI_X8_finding wS_X8_finding (tk_rm hR (by decide) (by decide)) kX8 k0 (by decide) (c_X8_finding E g22 a0 (-100001) k0) rfl rfl (Nat.le_of_ble_eq_true rfl) ⟨Nat.zero_le _, Nat.zero_le _⟩ (fun x25 => ?_)
    exact s_iret G dX8_cost_28
  refine s_if_eq (tgt := 22) G dX8_cost_8 (by decide) (fun q8 => ?_) (fun q8 => ?_)
  ·
    refine s_sub [0] (al' := [(0, .ref (e_ad E a0))]) rfl ?_
    exact hJ22 _
  ·
    refine s_v (fun _ k => tk_aload_n G dX8_cost_11 0 rfl (tk_gr G kX8 dX8_cost_12 wF_X8_10 k0 gR_8_0 (tk_iload_n G dX8_cost_15 2 rfl k))) ?_
    refine s_callVI (As := [.int a2]) G dX8_cost_16 wY_X0_hasTale wM_X8_76 wI_X0_hasTale wS_X0_hasTale (tk_rm hR (by decide) (by decide)) kX0 (kF_8_0 k0) (by decide) (c_X0_hasTale E x5.2 (fld a0 0) a2 (kF_8_0 k0)) rfl rfl (Nat.le_of_ble_eq_true rfl) ⟨Nat.zero_le _, Nat.zero_le _⟩ (fun x16 => ?_)
    refine s_if_ne (tgt := 29) G dX8_cost_19 (by decide) (fun q19 => ?_) (fun q19 => ?_)
    ·
      refine s_sub [0] (al' := [(0, .ref (e_ad E a0))]) rfl ?_
      exact hJ22 _
    ·
      refine s_v (fun _ k => tk_aload_n G dX8_cost_29 0 rfl (tk_gr G kX8 dX8_cost_30 wF_X8_26 k0 gR_8_2 (tk_aload_n G dX8_cost_33 0 rfl (tk_gr G kX8 dX8_cost_34 wF_X8_10 k0 gR_8_0 (tk_iload_n G dX8_cost_37 1 rfl (tk_iload_n G dX8_cost_38 2 rfl k)))))) ?_
      refine s_callVI (As := [.ref (e_ad E (fld a0 0)), .int a1, .int a2]) G dX8_cost_39 wY_X2_between wM_X8_156 wI_X2_between wS_X2_between (tk_rm hR (by decide) (by decide)) kX2 (kF_8_2 k0) (by decide) (c_X2_between E x16.2 (fld a0 2) (fld a0 0) a1 a2 (kF_8_2 k0) (kF_8_0 k0)) rfl rfl (Nat.le_of_ble_eq_true rfl) ⟨Nat.zero_le _, Nat.zero_le _⟩ (fun x39 => ?_)
      exact s_iret G dX8_cost_42
theorem c_X8_cost (E : tkE) (h : tkH) (a0 : Nat) (a1 : Int32) (a2 : Int32) (k0 : kd a0 = 11) : ∀ x, f_X8_cost h a0 a1 a2 = some x → tkM E yX8_cost cX8_cost 3 (some .int) 4 tkF [.ref (e_ad E a0), .int a1, .int a2] h (some (.int x.1)) x.2 := fun x hx => tkM_of (by decide) (Nat.le_of_ble_eq_true rfl) (fun _ hR G => w_X8_cost hR G h a0 a1 a2 k0 x hx)
set_option maxRecDepth 100000 in
set_option maxHeartbeats 4000000 in
theorem w_X8_joined {E : tkE} {X : tkX} (hR : x_R X = tkR 4) (G : tkG E X cX8_joined 10 RX8 (some .int)) (h : tkH) (a0 : Nat) (a1 : Int32) (a2 : Int32) (a3 : Int32) (a4 : Int32) (k0 : kd a0 = 11) : tkS E X 10 0 0 (tkZi E X) 0 [(0, .ref (e_ad E a0)), (1, .int a1), (2, .int a2), (3, .int a3), (4, .int a4)] [] h (f_X8_joined h a0 a1 a2 a3 a4) := by
  unfold f_X8_joined
  refine s_v (fun _ k => tk_aload_n G dX8_joined_0 0 rfl (tk_gr G kX8 dX8_joined_1 wF_X8_10 k0 gR_8_0 (tk_iload_n G dX8_joined_4 1 rfl k))) ?_
  refine s_callVI (As := [.int a1]) G dX8_joined_5 wY_X0_hasTale wM_X8_76 wI_X0_hasTale wS_X0_hasTale (tk_rm hR (by decide) (by decide)) kX0 (kF_8_0 k0) (by decide) (c_X0_hasTale E h (fld a0 0) a1 (kF_8_0 k0)) rfl rfl (Nat.le_of_ble_eq_true rfl) ⟨Nat.zero_le _, Nat.zero_le _⟩ (fun x5 => ?_)
  have hJ33 : ∀ (g33 : tkH), tkS E X 10 0 0 (tkZi E X) 33 [(0, .ref (e_ad E a0))] [] g33 (f_X8_joined_J33 a0 g33) := by
    intro g33
    unfold f_X8_joined_J33
    refine s_v (fun _ k => tk_aload_n G dX8_joined_33 0 rfl (tk_ldc G dX8_joined_34 wK_X8_59 k)) ?_
    refine s_callVI (As := [.int (-100001)]) G dX8_joined_36 wY_X8_finding wM_X8_60 wI_X8_finding wS_X8_finding (tk_rm hR (by decide) (by decide)) kX8 k0 (by decide) (c_X8_finding E g33 a0 (-100001) k0) rfl rfl (Nat.le_of_ble_eq_true rfl) ⟨Nat.zero_le _, Nat.zero_le _⟩ (fun x36 => ?_)
    exact s_iret G dX8_joined_39
  refine s_if_eq (tgt := 33) G dX8_joined_8 (by decide) (fun q8 => ?_) (fun q8 => ?_)
  ·
    refine s_sub [0] (al' := [(0, .ref (e_ad E a0))]) rfl ?_
    exact hJ33 _
  ·
    refine s_v (fun _ k => tk_aload_n G dX8_joined_11 0 rfl (tk_gr G kX8 dX8_joined_12 wF_X8_10 k0 gR_8_0 (tk_iload_n G dX8_joined_15 2 rfl k))) ?_
    refine s_callVI (As := [.int a2]) G dX8_joined_16 wY_X0_hasTale wM_X8_76 wI_X0_hasTale wS_X0_hasTale (tk_rm hR (by decide) (by decide)) kX0 (kF_8_0 k0) (by decide) (c_X0_hasTale E x5.2 (fld a0 0) a2 (kF_8_0 k0)) rfl rfl (Nat.le_of_ble_eq_true rfl) ⟨Nat.zero_le _, Nat.zero_le _⟩ (fun x16 => ?_)
    refine s_if_eq (tgt := 33) G dX8_joined_19 (by decide) (fun q19 => ?_) (fun q19 => ?_)
    ·
      refine s_sub [0] (al' := [(0, .ref (e_ad E a0))]) rfl ?_
      exact hJ33 _
    ·
      refine s_v (fun _ k => tk_aload_n G dX8_joined_22 0 rfl (tk_gr G kX8 dX8_joined_23 wF_X8_10 k0 gR_8_0 (tk_iload_n G dX8_joined_26 3 rfl k))) ?_
      refine s_callVI (As := [.int a3]) G dX8_joined_27 wY_X0_hasTale wM_X8_76 wI_X0_hasTale wS_X0_hasTale (tk_rm hR (by decide) (by decide)) kX0 (kF_8_0 k0) (by decide) (c_X0_hasTale E x16.2 (fld a0 0) a3 (kF_8_0 k0)) rfl rfl (Nat.le_of_ble_eq_true rfl) ⟨Nat.zero_le _, Nat.zero_le _⟩ (fun x27 => ?_)
      refine s_if_ne (tgt := 40) G dX8_joined_30 (by decide) (fun q30 => ?_) (fun q30 => ?_)
      ·
        refine s_sub [0] (al' := [(0, .ref (e_ad E a0))]) rfl ?_
        exact hJ33 _
      ·
        refine s_v (fun _ k => tk_aload_n G dX8_joined_40 0 rfl (tk_gr G kX8 dX8_joined_41 wF_X8_10 k0 gR_8_0 (tk_gr G kX0 dX8_joined_44 wF_X8_92 (kF_8_0 k0) gR_0_5 (tk_iload_n G dX8_joined_47 1 rfl k)))) ?_
        refine s_iald G dX8_joined_48 (kF_0_5 (kF_8_0 k0)) (fun v48 => ?_)
        refine s_v (fun _ k => tk_istore (al' := [(5, .int v48), (0, .ref (e_ad E a0)), (1, .int a1), (2, .int a2), (3, .int a3), (4, .int a4)]) G dX8_joined_49 (by decide) rfl (tk_iconst G dX8_joined_51 cI_0 (tk_istore (al' := [(6, .int 0), (5, .int v48), (0, .ref (e_ad E a0)), (1, .int a1), (2, .int a2), (3, .int a3), (4, .int a4)]) G dX8_joined_52 (by decide) rfl (tk_iconst G dX8_joined_54 cI_0 (tk_istore (al' := [(7, .int 0), (6, .int 0), (5, .int v48), (0, .ref (e_ad E a0)), (1, .int a1), (2, .int a2), (3, .int a3), (4, .int a4)]) G dX8_joined_55 (by decide) rfl (tk_iconst G dX8_joined_57 cI_0 (tk_istore (al' := [(8, .int 0), (7, .int 0), (6, .int 0), (5, .int v48), (0, .ref (e_ad E a0)), (1, .int a1), (2, .int a2), (3, .int a3), (4, .int a4)]) G dX8_joined_58 (by decide) rfl k))))))) ?_
        have hX132 : ∀ (gz132 : tkH) (z132_6 : Int32) (z132_7 : Int32), tkS E X 10 0 0 (tkZi E X) 132 [(4, .int a4), (6, .int z132_6), (7, .int z132_7)] [] gz132 (if a4 = 0 then (some (z132_6, gz132)) else (some (z132_7, gz132))) := by
          intro gz132 z132_6 z132_7
          refine s_v (fun _ k => tk_iload G dX8_joined_132 0 rfl k) ?_
          refine s_if_eq (tgt := 142) G dX8_joined_134 (by decide) (fun q134 => ?_) (fun q134 => ?_)
          ·
            refine s_v (fun _ k => tk_iload G dX8_joined_142 1 rfl k) ?_
            exact s_iret G dX8_joined_144
          ·
            refine s_v (fun _ k => tk_iload G dX8_joined_137 2 rfl (tk_goto (tgt := 144) G dX8_joined_139 (by decide) k)) ?_
            exact s_iret G dX8_joined_144
        refine s_sub [4, 5, 6, 7, 8, 3, 2, 1, 0] (al' := [(0, .ref (e_ad E a0)), (1, .int a1), (2, .int a2), (3, .int a3), (4, .int a4), (5, .int v48), (6, .int 0), (7, .int 0), (8, .int 0)]) rfl ?_
        unfold f_X8_joined_L60
        refine s_lp3 (al := fun y60_6 y60_7 y60_8 => [(0, .ref (e_ad E a0)), (1, .int a1), (2, .int a2), (3, .int a3), (4, .int a4), (5, .int v48), (6, .int y60_6), (7, .int y60_7), (8, .int y60_8)]) (fun kk60 hL60 g60 y60_6 y60_7 y60_8 => ?_) _ _ _ _ _
        refine s_v (fun _ k => tk_iload G dX8_joined_60 8 rfl (tk_iload G dX8_joined_62 5 rfl k)) ?_
        refine s_icmp_gt (tgt := 132) G dX8_joined_64 (by decide) (fun q64 => ?_) (fun q64 => ?_)
        ·
          refine s_sub [4, 6, 7] (al' := [(4, .int a4), (6, .int y60_6), (7, .int y60_7)]) rfl ?_
          exact hX132 _ _ _
        ·
          refine s_v (fun _ k => tk_aload_n G dX8_joined_67 0 rfl (tk_gr G kX8 dX8_joined_68 wF_X8_26 k0 gR_8_2 (tk_aload_n G dX8_joined_71 0 rfl (tk_gr G kX8 dX8_joined_72 wF_X8_10 k0 gR_8_0 (tk_iload_n G dX8_joined_75 1 rfl (tk_iconst G dX8_joined_76 cI_0 (tk_iload G dX8_joined_77 8 rfl (tk_iload_n G dX8_joined_79 2 rfl k)))))))) ?_
          refine s_callVI (As := [.ref (e_ad E (fld a0 0)), .int a1, .int 0, .int y60_8, .int a2]) G dX8_joined_80 wY_X2_ofPart wM_X8_234 wI_X2_ofPart wS_X2_ofPart (tk_rm hR (by decide) (by decide)) kX2 (kF_8_2 k0) (by decide) (c_X2_ofPart E g60 (fld a0 2) (fld a0 0) a1 0 y60_8 a2 (kF_8_2 k0) (kF_8_0 k0)) rfl rfl (Nat.le_of_ble_eq_true rfl) ⟨Nat.zero_le _, Nat.zero_le _⟩ (fun x80 => ?_)
          refine s_v (fun _ k => tk_aload_n G dX8_joined_83 0 rfl (tk_gr G kX8 dX8_joined_84 wF_X8_26 k0 gR_8_2 (tk_aload_n G dX8_joined_87 0 rfl (tk_gr G kX8 dX8_joined_88 wF_X8_10 k0 gR_8_0 (tk_iload_n G dX8_joined_91 1 rfl (tk_iload G dX8_joined_92 8 rfl (tk_iload G dX8_joined_94 5 rfl (tk_iload G dX8_joined_96 8 rfl (tk_isub G dX8_joined_98 (tk_iload_n G dX8_joined_99 3 rfl k)))))))))) ?_
          refine s_callVI (As := [.ref (e_ad E (fld a0 0)), .int a1, .int y60_8, .int (v48 - y60_8), .int a3]) G dX8_joined_100 wY_X2_ofPart wM_X8_234 wI_X2_ofPart wS_X2_ofPart (tk_rm hR (by decide) (by decide)) kX2 (kF_8_2 k0) (by decide) (c_X2_ofPart E x80.2 (fld a0 2) (fld a0 0) a1 y60_8 (v48 - y60_8) a3 (kF_8_2 k0) (kF_8_0 k0)) rfl rfl (Nat.le_of_ble_eq_true rfl) ⟨Nat.zero_le _, Nat.zero_le _⟩ (fun x100 => ?_)
          refine s_v (fun _ k => tk_iadd G dX8_joined_103 (tk_istore (al' := [(9, .int (x80.1 + x100.1)), (0, .ref (e_ad E a0)), (1, .int a1), (2, .int a2), (3, .int a3), (4, .int a4), (5, .int v48), (6, .int y60_6), (7, .int y60_7), (8, .int y60_8)]) G dX8_joined_104 (by decide) rfl (tk_iload G dX8_joined_106 9 rfl k))) ?_
          have hJ118 : ∀ (g118 : tkH), tkS E X 10 0 0 (tkZi E X) 118 [(0, .ref (e_ad E a0)), (1, .int a1), (2, .int a2), (3, .int a3), (4, .int a4), (5, .int v48), (8, .int y60_8), (9, .int (x80.1 + x100.1))] [] g118 (f_X8_joined_J118 kk60 y60_8 x80 x100 g118) := by
            intro g118
            unfold f_X8_joined_J118
            refine s_v (fun _ k => tk_iload G dX8_joined_118 6 rfl (tk_istore (al' := [(6, .int y60_8), (0, .ref (e_ad E a0)), (1, .int a1), (2, .int a2), (3, .int a3), (4, .int a4), (5, .int v48), (8, .int y60_8), (9, .int (x80.1 + x100.1))]) G dX8_joined_120 (by decide) rfl (tk_iload G dX8_joined_122 8 rfl (tk_istore (al' := [(7, .int (x80.1 + x100.1)), (6, .int y60_8), (0, .ref (e_ad E a0)), (1, .int a1), (2, .int a2), (3, .int a3), (4, .int a4), (5, .int v48), (8, .int y60_8), (9, .int (x80.1 + x100.1))]) G dX8_joined_124 (by decide) rfl (tk_iinc (al' := [(8, .int (y60_8 + 1)), (7, .int (x80.1 + x100.1)), (6, .int y60_8), (0, .ref (e_ad E a0)), (1, .int a1), (2, .int a2), (3, .int a3), (4, .int a4), (5, .int v48), (9, .int (x80.1 + x100.1))]) G dX8_joined_126 8 rfl (ci_1 _) (by decide) rfl (tk_goto (tgt := 60) G dX8_joined_129 (by decide) k)))))) ?_
            refine s_sub [3, 4, 5, 6, 7, 8, 2, 1, 0] (al' := [(0, .ref (e_ad E a0)), (1, .int a1), (2, .int a2), (3, .int a3), (4, .int a4), (5, .int v48), (6, .int y60_8), (7, .int (x80.1 + x100.1)), (8, .int (y60_8 + 1))]) rfl ?_
            exact hL60 _ _ _ _
          refine s_if_eq (tgt := 118) G dX8_joined_108 (by decide) (fun q108 => ?_) (fun q108 => ?_)
          ·
            refine s_sub [1, 2, 3, 4, 5, 6, 9, 0] (al' := [(0, .ref (e_ad E a0)), (1, .int a1), (2, .int a2), (3, .int a3), (4, .int a4), (5, .int v48), (8, .int y60_8), (9, .int (x80.1 + x100.1))]) rfl ?_
            exact hJ118 _
          ·
            refine s_v (fun _ k => tk_iload G dX8_joined_111 0 rfl (tk_iload G dX8_joined_113 8 rfl k)) ?_
            refine s_icmp_ge (tgt := 126) G dX8_joined_115 (by decide) (fun q115 => ?_) (fun q115 => ?_)
            ·
              refine s_v (fun _ k => tk_iinc (al' := [(8, .int (y60_8 + 1)), (9, .int (x80.1 + x100.1)), (0, .ref (e_ad E a0)), (1, .int a1), (2, .int a2), (3, .int a3), (4, .int a4), (5, .int v48), (6, .int y60_6), (7, .int y60_7)]) G dX8_joined_126 9 rfl (ci_1 _) (by decide) rfl (tk_goto (tgt := 60) G dX8_joined_129 (by decide) k)) ?_
              refine s_sub [2, 3, 4, 5, 6, 7, 8, 9, 0] (al' := [(0, .ref (e_ad E a0)), (1, .int a1), (2, .int a2), (3, .int a3), (4, .int a4), (5, .int v48), (6, .int y60_6), (7, .int y60_7), (8, .int (y60_8 + 1))]) rfl ?_
              exact hL60 _ _ _ _
            ·
              refine s_sub [1, 2, 3, 4, 5, 6, 9, 0] (al' := [(0, .ref (e_ad E a0)), (1, .int a1), (2, .int a2), (3, .int a3), (4, .int a4), (5, .int v48), (8, .int y60_8), (9, .int (x80.1 + x100.1))]) rfl ?_
              exact hJ118 _
theorem c_X8_joined (E : tkE) (h : tkH) (a0 : Nat) (a1 : Int32) (a2 : Int32) (a3 : Int32) (a4 : Int32) (k0 : kd a0 = 11) : ∀ x, f_X8_joined h a0 a1 a2 a3 a4 = some x → tkM E yX8_joined cX8_joined 10 (some .int) 4 tkF [.ref (e_ad E a0), .int a1, .int a2, .int a3, .int a4] h (some (.int x.1)) x.2 := fun x hx => tkM_of (by decide) (Nat.le_of_ble_eq_true rfl) (fun _ hR G => w_X8_joined hR G h a0 a1 a2 a3 a4 k0 x hx)
set_option maxRecDepth 100000 in
set_option maxHeartbeats 4000000 in
theorem w_X9_borrowed {E : tkE} {X : tkX} (hR : x_R X = tkR 4) (G : tkG E X cX9_borrowed 4 RX9 (some .int)) (h : tkH) (a0 : Nat) (a1 : Int32) (a2 : Int32) (a3 : Int32) (k0 : kd a0 = 12) : tkS E X 4 0 0 (tkZi E X) 0 [(0, .ref (e_ad E a0)), (1, .int a1), (2, .int a2), (3, .int a3)] [] h (f_X9_borrowed h a0 a1 a2 a3) := by
  unfold f_X9_borrowed
  refine s_v (fun _ k => tk_aload_n G dX9_borrowed_0 0 rfl (tk_iload_n G dX9_borrowed_1 1 rfl k)) ?_
  refine s_callVI (As := [.int a1]) G dX9_borrowed_2 wY_X9_isTale wM_X9_71 wI_X9_isTale wS_X9_isTale (tk_rm hR (by decide) (by decide)) kX9 k0 (by decide) (c_X9_isTale E h a0 a1 k0) rfl rfl (Nat.le_of_ble_eq_true rfl) ⟨Nat.zero_le _, Nat.zero_le _⟩ (fun x2 => ?_)
  have hJ25 : ∀ (g25 : tkH), tkS E X 4 0 0 (tkZi E X) 25 [(0, .ref (e_ad E a0))] [] g25 (f_X9_borrowed_J25 a0 g25) := by
    intro g25
    unfold f_X9_borrowed_J25
    refine s_v (fun _ k => tk_aload_n G dX9_borrowed_25 0 rfl (tk_ldc G dX9_borrowed_26 wK_X9_66 k)) ?_
    refine s_callVI (As := [.int (-100001)]) G dX9_borrowed_28 wY_X9_finding wM_X9_58 wI_X9_finding wS_X9_finding (tk_rm hR (by decide) (by decide)) kX9 k0 (by decide) (c_X9_finding E g25 a0 (-100001) k0) rfl rfl (Nat.le_of_ble_eq_true rfl) ⟨Nat.zero_le _, Nat.zero_le _⟩ (fun x28 => ?_)
    exact s_iret G dX9_borrowed_31
  refine s_if_eq (tgt := 25) G dX9_borrowed_5 (by decide) (fun q5 => ?_) (fun q5 => ?_)
  ·
    refine s_sub [0] (al' := [(0, .ref (e_ad E a0))]) rfl ?_
    exact hJ25 _
  ·
    refine s_v (fun _ k => tk_aload_n G dX9_borrowed_8 0 rfl (tk_iload_n G dX9_borrowed_9 2 rfl k)) ?_
    refine s_callVI (As := [.int a2]) G dX9_borrowed_10 wY_X9_isTale wM_X9_71 wI_X9_isTale wS_X9_isTale (tk_rm hR (by decide) (by decide)) kX9 k0 (by decide) (c_X9_isTale E x2.2 a0 a2 k0) rfl rfl (Nat.le_of_ble_eq_true rfl) ⟨Nat.zero_le _, Nat.zero_le _⟩ (fun x10 => ?_)
    refine s_if_eq (tgt := 25) G dX9_borrowed_13 (by decide) (fun q13 => ?_) (fun q13 => ?_)
    ·
      refine s_sub [0] (al' := [(0, .ref (e_ad E a0))]) rfl ?_
      exact hJ25 _
    ·
      refine s_v (fun _ k => tk_iload_n G dX9_borrowed_16 3 rfl (tk_iconst G dX9_borrowed_17 cI_0 (tk_iconst G dX9_borrowed_18 cI_2 k))) ?_
      refine s_callSI (As := [.int a3, .int 0, .int 2]) G dX9_borrowed_19 wY_X9_within wM_X9_50 wI_X9_within (tk_rm hR (by decide) (by decide)) (c_X9_within E x10.2 a3 0 2) rfl rfl (Nat.le_of_ble_eq_true rfl) ⟨Nat.zero_le _, Nat.zero_le _⟩ (fun x19 => ?_)
      refine s_if_ne (tgt := 32) G dX9_borrowed_22 (by decide) (fun q22 => ?_) (fun q22 => ?_)
      ·
        refine s_sub [0] (al' := [(0, .ref (e_ad E a0))]) rfl ?_
        exact hJ25 _
      ·
        refine s_v (fun _ k => tk_aload_n G dX9_borrowed_32 0 rfl (tk_iload_n G dX9_borrowed_33 1 rfl (tk_iload_n G dX9_borrowed_34 2 rfl k))) ?_
        refine s_callVV (As := [.int a1, .int a2]) G dX9_borrowed_35 wY_X9_findPiece wM_X9_222 wI_X9_findPiece wS_X9_findPiece (tk_rm hR (by decide) (by decide)) kX9 k0 (by decide) (c_X9_findPiece E x19.2 a0 a1 a2 k0) rfl rfl (Nat.le_of_ble_eq_true rfl) ⟨Nat.zero_le _, Nat.zero_le _⟩ (fun x35 => ?_)
        refine s_v (fun _ k => tk_iload_n G dX9_borrowed_38 3 rfl k) ?_
        refine s_if_ne (tgt := 47) G dX9_borrowed_39 (by decide) (fun q39 => ?_) (fun q39 => ?_)
        ·
          refine s_v (fun _ k => tk_aload_n G dX9_borrowed_42 0 rfl (tk_gi G kX9 dX9_borrowed_43 wF_X9_209 k0 gI_9_25 k)) ?_
          exact s_iret G dX9_borrowed_46
        ·
          refine s_v (fun _ k => tk_aload_n G dX9_borrowed_47 0 rfl (tk_gi G kX9 dX9_borrowed_48 wF_X9_209 k0 gI_9_25 k)) ?_
          refine s_if_ne (tgt := 63) G dX9_borrowed_51 (by decide) (fun q51 => ?_) (fun q51 => ?_)
          ·
            refine s_v (fun _ k => tk_aload_n G dX9_borrowed_54 0 rfl (tk_ldc G dX9_borrowed_55 wK_X9_57 k)) ?_
            refine s_callVI (As := [.int (-100006)]) G dX9_borrowed_57 wY_X9_finding wM_X9_58 wI_X9_finding wS_X9_finding (tk_rm hR (by decide) (by decide)) kX9 k0 (by decide) (c_X9_finding E x35 a0 (-100006) k0) rfl rfl (Nat.le_of_ble_eq_true rfl) ⟨Nat.zero_le _, Nat.zero_le _⟩ (fun x57 => ?_)
            refine s_v (fun _ k => tk_goto (tgt := 79) G dX9_borrowed_60 (by decide) k) ?_
            exact s_iret G dX9_borrowed_79
          ·
            refine s_v (fun _ k => tk_iload_n G dX9_borrowed_63 3 rfl (tk_iconst G dX9_borrowed_64 cI_1 k)) ?_
            refine s_icmp_ne (tgt := 75) G dX9_borrowed_65 (by decide) (fun q65 => ?_) (fun q65 => ?_)
            ·
              refine s_v (fun _ k => tk_aload_n G dX9_borrowed_68 0 rfl (tk_gi G kX9 dX9_borrowed_69 wF_X9_216 k0 gI_9_26 (tk_goto (tgt := 79) G dX9_borrowed_72 (by decide) k))) ?_
              exact s_iret G dX9_borrowed_79
            ·
              refine s_v (fun _ k => tk_aload_n G dX9_borrowed_75 0 rfl (tk_gi G kX9 dX9_borrowed_76 wF_X9_219 k0 gI_9_27 k)) ?_
              exact s_iret G dX9_borrowed_79
theorem c_X9_borrowed (E : tkE) (h : tkH) (a0 : Nat) (a1 : Int32) (a2 : Int32) (a3 : Int32) (k0 : kd a0 = 12) : ∀ x, f_X9_borrowed h a0 a1 a2 a3 = some x → tkM E yX9_borrowed cX9_borrowed 4 (some .int) 4 tkF [.ref (e_ad E a0), .int a1, .int a2, .int a3] h (some (.int x.1)) x.2 := fun x hx => tkM_of (by decide) (Nat.le_of_ble_eq_true rfl) (fun _ hR G => w_X9_borrowed hR G h a0 a1 a2 a3 k0 x hx)
set_option maxRecDepth 100000 in
set_option maxHeartbeats 4000000 in
theorem w_X9_partCost {E : tkE} {X : tkX} (hR : x_R X = tkR 4) (G : tkG E X cX9_partCost 5 RX9 (some .int)) (h : tkH) (a0 : Nat) (a1 : Int32) (a2 : Int32) (a3 : Int32) (a4 : Int32) (k0 : kd a0 = 12) : tkS E X 5 0 0 (tkZi E X) 0 [(0, .ref (e_ad E a0)), (1, .int a1), (2, .int a2), (3, .int a3), (4, .int a4)] [] h (f_X9_partCost h a0 a1 a2 a3 a4) := by
  unfold f_X9_partCost
  refine s_v (fun _ k => tk_aload_n G dX9_partCost_0 0 rfl (tk_iload_n G dX9_partCost_1 1 rfl (tk_pi G kX9 dX9_partCost_2 wF_X9_104 k0 gP_9_8 (tk_aload_n G dX9_partCost_5 0 rfl (tk_iload_n G dX9_partCost_6 2 rfl (tk_pi G kX9 dX9_partCost_7 wF_X9_107 k0 gP_9_9 (tk_aload_n G dX9_partCost_10 0 rfl (tk_iload_n G dX9_partCost_11 3 rfl (tk_pi G kX9 dX9_partCost_12 wF_X9_110 k0 gP_9_10 (tk_aload_n G dX9_partCost_15 0 rfl (tk_iconst G dX9_partCost_16 cI_0 (tk_pz G kX9 dX9_partCost_17 wF_X9_116 k0 gP_9_11 (by decide) (tk_aload_n G dX9_partCost_20 0 rfl (tk_iload G dX9_partCost_21 4 rfl k)))))))))))))) ?_
  refine s_callVV (As := [.int a4]) G dX9_partCost_23 wY_X9_takeOther wM_X9_120 wI_X9_takeOther wS_X9_takeOther (tk_rm hR (by decide) (by decide)) kX9 k0 (by decide) (c_X9_takeOther E (tkup (tkup (tkup (tkup h a0 8 a1) a0 9 a2) a0 10 a3) a0 11 0) a0 a4 k0) rfl rfl (Nat.le_of_ble_eq_true rfl) ⟨Nat.zero_le _, Nat.zero_le _⟩ (fun x23 => ?_)
  refine s_v (fun _ k => tk_aload_n G dX9_partCost_26 0 rfl k) ?_
  refine s_callVI (As := []) G dX9_partCost_27 wY_X9_leastCost wM_X9_168 wI_X9_leastCost wS_X9_leastCost (tk_rm hR (by decide) (by decide)) kX9 k0 (by decide) (c_X9_leastCost E x23 a0 k0) rfl rfl (Nat.le_of_ble_eq_true rfl) ⟨Nat.zero_le _, Nat.zero_le _⟩ (fun x27 => ?_)
  exact s_iret G dX9_partCost_30
theorem c_X9_partCost (E : tkE) (h : tkH) (a0 : Nat) (a1 : Int32) (a2 : Int32) (a3 : Int32) (a4 : Int32) (k0 : kd a0 = 12) : ∀ x, f_X9_partCost h a0 a1 a2 a3 a4 = some x → tkM E yX9_partCost cX9_partCost 5 (some .int) 4 tkF [.ref (e_ad E a0), .int a1, .int a2, .int a3, .int a4] h (some (.int x.1)) x.2 := fun x hx => tkM_of (by decide) (Nat.le_of_ble_eq_true rfl) (fun _ hR G => w_X9_partCost hR G h a0 a1 a2 a3 a4 k0 x hx)
set_option maxRecDepth 100000 in
set_option maxHeartbeats 4000000 in
theorem w_X9_takeTwo {E : tkE} {X : tkX} (hR : x_R X = tkR 4) (G : tkG E X cX9_takeTwo 3 RX9 none) (h : tkH) (a0 : Nat) (a1 : Int32) (a2 : Int32) (k0 : kd a0 = 12) : tkS E X 3 0 0 (tkZv E X) 0 [(0, .ref (e_ad E a0)), (1, .int a1), (2, .int a2)] [] h (f_X9_takeTwo h a0 a1 a2) := by
  unfold f_X9_takeTwo
  refine s_v (fun _ k => tk_aload_n G dX9_takeTwo_0 0 rfl (tk_iload_n G dX9_takeTwo_1 1 rfl (tk_pi G kX9 dX9_takeTwo_2 wF_X9_104 k0 gP_9_8 (tk_aload_n G dX9_takeTwo_5 0 rfl (tk_aload_n G dX9_takeTwo_6 0 rfl (tk_iload_n G dX9_takeTwo_7 1 rfl k)))))) ?_
  refine s_callVI (As := [.int a1]) G dX9_takeTwo_8 wY_X9_laidFrom wM_X9_96 wI_X9_laidFrom wS_X9_laidFrom (tk_rm hR (by decide) (by decide)) kX9 k0 (by decide) (c_X9_laidFrom E (tkup h a0 8 a1) a0 a1 k0) rfl rfl (Nat.le_of_ble_eq_true rfl) ⟨Nat.zero_le _, Nat.zero_le _⟩ (fun x8 => ?_)
  refine s_v (fun _ k => tk_pi G kX9 dX9_takeTwo_11 wF_X9_107 k0 gP_9_9 (tk_aload_n G dX9_takeTwo_14 0 rfl (tk_aload_n G dX9_takeTwo_15 0 rfl (tk_iload_n G dX9_takeTwo_16 1 rfl k)))) ?_
  refine s_callVI (As := [.int a1]) G dX9_takeTwo_17 wY_X9_laidTo wM_X9_99 wI_X9_laidTo wS_X9_laidTo (tk_rm hR (by decide) (by decide)) kX9 k0 (by decide) (c_X9_laidTo E (tkup x8.2 a0 9 x8.1) a0 a1 k0) rfl rfl (Nat.le_of_ble_eq_true rfl) ⟨Nat.zero_le _, Nat.zero_le _⟩ (fun x17 => ?_)
  refine s_v (fun _ k => tk_pi G kX9 dX9_takeTwo_20 wF_X9_110 k0 gP_9_10 (tk_aload_n G dX9_takeTwo_23 0 rfl (tk_aload_n G dX9_takeTwo_24 0 rfl (tk_iload_n G dX9_takeTwo_25 1 rfl k)))) ?_
  refine s_callVI (As := [.int a1]) G dX9_takeTwo_26 wY_X9_isTorn wM_X9_113 wI_X9_isTorn wS_X9_isTorn (tk_rm hR (by decide) (by decide)) kX9 k0 (by decide) (c_X9_isTorn E (tkup x17.2 a0 10 x17.1) a0 a1 k0) rfl rfl (Nat.le_of_ble_eq_true rfl) ⟨Nat.zero_le _, Nat.zero_le _⟩ (fun x26 => ?_)
  refine s_pz G kX9 dX9_takeTwo_29 wF_X9_116 k0 gP_9_11 (fun u29 => ?_)
  refine s_v (fun _ k => tk_aload_n G dX9_takeTwo_32 0 rfl (tk_iload_n G dX9_takeTwo_33 2 rfl k)) ?_
  refine s_callVV (As := [.int a2]) G dX9_takeTwo_34 wY_X9_takeOther wM_X9_120 wI_X9_takeOther wS_X9_takeOther (tk_rm hR (by decide) (by decide)) kX9 k0 (by decide) (c_X9_takeOther E (tkup x26.2 a0 11 u29) a0 a2 k0) rfl rfl (Nat.le_of_ble_eq_true rfl) ⟨Nat.zero_le _, Nat.zero_le _⟩ (fun x34 => ?_)
  exact s_vret G dX9_takeTwo_37
theorem c_X9_takeTwo (E : tkE) (h : tkH) (a0 : Nat) (a1 : Int32) (a2 : Int32) (k0 : kd a0 = 12) : ∀ x, f_X9_takeTwo h a0 a1 a2 = some x → tkM E yX9_takeTwo cX9_takeTwo 3 none 4 tkF [.ref (e_ad E a0), .int a1, .int a2] h none x := fun x hx => tkM_of (by decide) (Nat.le_of_ble_eq_true rfl) (fun _ hR G => w_X9_takeTwo hR G h a0 a1 a2 k0 x hx)
set_option maxRecDepth 100000 in
set_option maxHeartbeats 4000000 in
theorem w_X8_branch {E : tkE} {X : tkX} (hR : x_R X = tkR 5) (G : tkG E X cX8_branch 4 RX8 (some .int)) (h : tkH) (a0 : Nat) (a1 : Int32) (a2 : Int32) (k0 : kd a0 = 11) : tkS E X 4 0 0 (tkZi E X) 0 [(0, .ref (e_ad E a0)), (1, .int a1), (2, .int a2)] [] h (f_X8_branch h a0 a1 a2) := by
  unfold f_X8_branch
  refine s_v (fun _ k => tk_aload_n G dX8_branch_0 0 rfl (tk_iload_n G dX8_branch_1 1 rfl k)) ?_
  refine s_callVI (As := [.int a1]) G dX8_branch_2 wY_X8_heapRefusal wM_X8_185 wI_X8_heapRefusal wS_X8_heapRefusal (tk_rm hR (by decide) (by decide)) kX8 k0 (by decide) (c_X8_heapRefusal E h a0 a1 k0) rfl rfl (Nat.le_of_ble_eq_true rfl) ⟨Nat.zero_le _, Nat.zero_le _⟩ (fun x2 => ?_)
  refine s_v (fun _ k => tk_istore_n (al' := [(3, .int x2.1), (0, .ref (e_ad E a0)), (1, .int a1), (2, .int a2)]) G dX8_branch_5 (by decide) rfl (tk_iload_n G dX8_branch_6 0 rfl k)) ?_
  refine s_if_ge (tgt := 16) G dX8_branch_7 (by decide) (fun q7 => ?_) (fun q7 => ?_)
  ·
    refine s_v (fun _ k => tk_aload_n G dX8_branch_16 1 rfl (tk_gr G kX8 dX8_branch_17 wF_X8_26 k0 gR_8_2 (tk_aload_n G dX8_branch_20 1 rfl (tk_gr G kX8 dX8_branch_21 wF_X8_10 k0 gR_8_0 (tk_iload_n G dX8_branch_24 2 rfl k))))) ?_
    refine s_callVV (As := [.ref (e_ad E (fld a0 0)), .int a1]) G dX8_branch_25 wY_X2_reckonHeap wM_X8_188 wI_X2_reckonHeap wS_X2_reckonHeap (tk_rm hR (by decide) (by decide)) kX2 (kF_8_2 k0) (by decide) (c_X2_reckonHeap E x2.2 (fld a0 2) (fld a0 0) a1 (kF_8_2 k0) (kF_8_0 k0)) rfl rfl (Nat.le_of_ble_eq_true rfl) ⟨Nat.zero_le _, Nat.zero_le _⟩ (fun x25 => ?_)
    refine s_v (fun _ k => tk_aload_n G dX8_branch_28 1 rfl (tk_gr G kX8 dX8_branch_29 wF_X8_33 k0 gR_8_3 (tk_aload_n G dX8_branch_32 1 rfl (tk_gr G kX8 dX8_branch_33 wF_X8_26 k0 gR_8_2 (tk_gr G kX2 dX8_branch_36 wF_X8_198 (kF_8_2 k0) gR_2_1 (tk_iload_n G dX8_branch_39 2 rfl k)))))) ?_
    refine s_callVV (As := [.ref (e_ad E (fld (fld a0 2) 1)), .int a1]) G dX8_branch_40 wY_X7_grow wM_X8_201 wI_X7_grow wS_X7_grow (tk_rm hR (by decide) (by decide)) kX7 (kF_8_3 k0) (by decide) (c_X7_grow E x25 (fld a0 3) (fld (fld a0 2) 1) a1 (kF_8_3 k0) (kF_2_1 (kF_8_2 k0))) rfl rfl (Nat.le_of_ble_eq_true rfl) ⟨Nat.zero_le _, Nat.zero_le _⟩ (fun x40 => ?_)
    refine s_v (fun _ k => tk_iload_n G dX8_branch_43 3 rfl (tk_aload_n G dX8_branch_44 1 rfl (tk_gr G kX8 dX8_branch_45 wF_X8_33 k0 gR_8_3 (tk_gi G kX7 dX8_branch_48 wF_X8_208 (kF_8_3 k0) gI_7_2 k)))) ?_
    refine s_callSI (As := [.int a2, .int (x40 (fld a0 3) 2)]) G dX8_branch_51 wY_X8_isWithin wM_X8_55 wI_X8_isWithin (tk_rm hR (by decide) (by decide)) (c_X8_isWithin E x40 a2 (x40 (fld a0 3) 2)) rfl rfl (Nat.le_of_ble_eq_true rfl) ⟨Nat.zero_le _, Nat.zero_le _⟩ (fun x51 => ?_)
    refine s_if_eq (tgt := 69) G dX8_branch_54 (by decide) (fun q54 => ?_) (fun q54 => ?_)
    ·
      refine s_v (fun _ k => tk_aload_n G dX8_branch_69 1 rfl (tk_ldc G dX8_branch_70 wK_X8_106 k)) ?_
      refine s_callVI (As := [.int (-100006)]) G dX8_branch_72 wY_X8_finding wM_X8_60 wI_X8_finding wS_X8_finding (tk_rm hR (by decide) (by decide)) kX8 k0 (by decide) (c_X8_finding E x51.2 a0 (-100006) k0) rfl rfl (Nat.le_of_ble_eq_true rfl) ⟨Nat.zero_le _, Nat.zero_le _⟩ (fun x72 => ?_)
      exact s_iret G dX8_branch_75
    ·
      refine s_v (fun _ k => tk_aload_n G dX8_branch_57 1 rfl (tk_gr G kX8 dX8_branch_58 wF_X8_33 k0 gR_8_3 (tk_gr G kX7 dX8_branch_61 wF_X8_211 (kF_8_3 k0) gR_7_1 (tk_iload_n G dX8_branch_64 3 rfl k)))) ?_
      refine s_iald G dX8_branch_65 (kF_7_1 (kF_8_3 k0)) (fun v65 => ?_)
      refine s_v (fun _ k => tk_goto (tgt := 75) G dX8_branch_66 (by decide) k) ?_
      exact s_iret G dX8_branch_75
  ·
    refine s_v (fun _ k => tk_aload_n G dX8_branch_10 1 rfl (tk_iload_n G dX8_branch_11 0 rfl k)) ?_
    refine s_callVI (As := [.int x2.1]) G dX8_branch_12 wY_X8_finding wM_X8_60 wI_X8_finding wS_X8_finding (tk_rm hR (by decide) (by decide)) kX8 k0 (by decide) (c_X8_finding E x2.2 a0 x2.1 k0) rfl rfl (Nat.le_of_ble_eq_true rfl) ⟨Nat.zero_le _, Nat.zero_le _⟩ (fun x12 => ?_)
    exact s_iret G dX8_branch_15
theorem c_X8_branch (E : tkE) (h : tkH) (a0 : Nat) (a1 : Int32) (a2 : Int32) (k0 : kd a0 = 11) : ∀ x, f_X8_branch h a0 a1 a2 = some x → tkM E yX8_branch cX8_branch 4 (some .int) 5 tkF [.ref (e_ad E a0), .int a1, .int a2] h (some (.int x.1)) x.2 := fun x hx => tkM_of (by decide) (Nat.le_of_ble_eq_true rfl) (fun _ hR G => w_X8_branch hR G h a0 a1 a2 k0 x hx)
set_option maxRecDepth 100000 in
set_option maxHeartbeats 4000000 in
theorem w_X8_mould {E : tkE} {X : tkX} (hR : x_R X = tkR 5) (G : tkG E X cX8_mould 3 RX8 (some .int)) (h : tkH) (a0 : Nat) (a1 : Int32) (k0 : kd a0 = 11) : tkS E X 3 0 0 (tkZi E X) 0 [(0, .ref (e_ad E a0)), (1, .int a1)] [] h (f_X8_mould h a0 a1) := by
  unfold f_X8_mould
  refine s_v (fun _ k => tk_aload_n G dX8_mould_0 0 rfl (tk_iload_n G dX8_mould_1 1 rfl k)) ?_
  refine s_callVI (As := [.int a1]) G dX8_mould_2 wY_X8_heapRefusal wM_X8_185 wI_X8_heapRefusal wS_X8_heapRefusal (tk_rm hR (by decide) (by decide)) kX8 k0 (by decide) (c_X8_heapRefusal E h a0 a1 k0) rfl rfl (Nat.le_of_ble_eq_true rfl) ⟨Nat.zero_le _, Nat.zero_le _⟩ (fun x2 => ?_)
  refine s_v (fun _ k => tk_istore_n (al' := [(2, .int x2.1), (0, .ref (e_ad E a0)), (1, .int a1)]) G dX8_mould_5 (by decide) rfl (tk_iload_n G dX8_mould_6 0 rfl k)) ?_
  refine s_if_ge (tgt := 16) G dX8_mould_7 (by decide) (fun q7 => ?_) (fun q7 => ?_)
  ·
    refine s_v (fun _ k => tk_aload_n G dX8_mould_16 1 rfl (tk_gr G kX8 dX8_mould_17 wF_X8_26 k0 gR_8_2 (tk_aload_n G dX8_mould_20 1 rfl (tk_gr G kX8 dX8_mould_21 wF_X8_10 k0 gR_8_0 (tk_iload_n G dX8_mould_24 2 rfl k))))) ?_
    refine s_callVV (As := [.ref (e_ad E (fld a0 0)), .int a1]) G dX8_mould_25 wY_X2_reckonHeap wM_X8_188 wI_X2_reckonHeap wS_X2_reckonHeap (tk_rm hR (by decide) (by decide)) kX2 (kF_8_2 k0) (by decide) (c_X2_reckonHeap E x2.2 (fld a0 2) (fld a0 0) a1 (kF_8_2 k0) (kF_8_0 k0)) rfl rfl (Nat.le_of_ble_eq_true rfl) ⟨Nat.zero_le _, Nat.zero_le _⟩ (fun x25 => ?_)
    refine s_v (fun _ k => tk_aload_n G dX8_mould_28 1 rfl (tk_iload_n G dX8_mould_29 2 rfl k)) ?_
    refine s_callVI (As := [.int a1]) G dX8_mould_30 wY_X8_mouldOf wM_X8_192 wI_X8_mouldOf wS_X8_mouldOf (tk_rm hR (by decide) (by decide)) kX8 k0 (by decide) (c_X8_mouldOf E x25 a0 a1 k0) rfl rfl (Nat.le_of_ble_eq_true rfl) ⟨Nat.zero_le _, Nat.zero_le _⟩ (fun x30 => ?_)
    exact s_iret G dX8_mould_33
  ·
    refine s_v (fun _ k => tk_aload_n G dX8_mould_10 1 rfl (tk_iload_n G dX8_mould_11 0 rfl k)) ?_
    refine s_callVI (As := [.int x2.1]) G dX8_mould_12 wY_X8_finding wM_X8_60 wI_X8_finding wS_X8_finding (tk_rm hR (by decide) (by decide)) kX8 k0 (by decide) (c_X8_finding E x2.2 a0 x2.1 k0) rfl rfl (Nat.le_of_ble_eq_true rfl) ⟨Nat.zero_le _, Nat.zero_le _⟩ (fun x12 => ?_)
    exact s_iret G dX8_mould_15
theorem c_X8_mould (E : tkE) (h : tkH) (a0 : Nat) (a1 : Int32) (k0 : kd a0 = 11) : ∀ x, f_X8_mould h a0 a1 = some x → tkM E yX8_mould cX8_mould 3 (some .int) 5 tkF [.ref (e_ad E a0), .int a1] h (some (.int x.1)) x.2 := fun x hx => tkM_of (by decide) (Nat.le_of_ble_eq_true rfl) (fun _ hR G => w_X8_mould hR G h a0 a1 k0 x hx)
set_option maxRecDepth 100000 in
set_option maxHeartbeats 4000000 in
theorem w_X8_nearest {E : tkE} {X : tkX} (hR : x_R X = tkR 5) (G : tkG E X cX8_nearest 3 RX8 (some .int)) (h : tkH) (a0 : Nat) (a1 : Int32) (k0 : kd a0 = 11) : tkS E X 3 0 0 (tkZi E X) 0 [(0, .ref (e_ad E a0)), (1, .int a1)] [] h (f_X8_nearest h a0 a1) := by
  unfold f_X8_nearest
  refine s_v (fun _ k => tk_aload_n G dX8_nearest_0 0 rfl (tk_gr G kX8 dX8_nearest_1 wF_X8_10 k0 gR_8_0 (tk_iload_n G dX8_nearest_4 1 rfl k))) ?_
  refine s_callVI (As := [.int a1]) G dX8_nearest_5 wY_X0_hasTale wM_X8_76 wI_X0_hasTale wS_X0_hasTale (tk_rm hR (by decide) (by decide)) kX0 (kF_8_0 k0) (by decide) (c_X0_hasTale E h (fld a0 0) a1 (kF_8_0 k0)) rfl rfl (Nat.le_of_ble_eq_true rfl) ⟨Nat.zero_le _, Nat.zero_le _⟩ (fun x5 => ?_)
  refine s_if_ne (tgt := 18) G dX8_nearest_8 (by decide) (fun q8 => ?_) (fun q8 => ?_)
  ·
    refine s_v (fun _ k => tk_aload_n G dX8_nearest_11 0 rfl (tk_ldc G dX8_nearest_12 wK_X8_59 k)) ?_
    refine s_callVI (As := [.int (-100001)]) G dX8_nearest_14 wY_X8_finding wM_X8_60 wI_X8_finding wS_X8_finding (tk_rm hR (by decide) (by decide)) kX8 k0 (by decide) (c_X8_finding E x5.2 a0 (-100001) k0) rfl rfl (Nat.le_of_ble_eq_true rfl) ⟨Nat.zero_le _, Nat.zero_le _⟩ (fun x14 => ?_)
    exact s_iret G dX8_nearest_17
  ·
    refine s_v (fun _ k => tk_aload_n G dX8_nearest_18 0 rfl (tk_iload_n G dX8_nearest_19 1 rfl (tk_iconst G dX8_nearest_20 cI_0 k))) ?_
    refine s_callVI (As := [.int a1, .int 0]) G dX8_nearest_21 wY_X8_cheapestBeside wM_X8_214 wI_X8_cheapestBeside wS_X8_cheapestBeside (tk_rm hR (by decide) (by decide)) kX8 k0 (by decide) (c_X8_cheapestBeside E x5.2 a0 a1 0 k0) rfl rfl (Nat.le_of_ble_eq_true rfl) ⟨Nat.zero_le _, Nat.zero_le _⟩ (fun x21 => ?_)
    refine s_v (fun _ k => tk_istore_n (al' := [(2, .int x21.1), (0, .ref (e_ad E a0)), (1, .int a1)]) G dX8_nearest_24 (by decide) rfl (tk_iload_n G dX8_nearest_25 0 rfl k)) ?_
    refine s_if_ge (tgt := 38) G dX8_nearest_26 (by decide) (fun q26 => ?_) (fun q26 => ?_)
    ·
      refine s_v (fun _ k => tk_iload_n G dX8_nearest_38 0 rfl k) ?_
      exact s_iret G dX8_nearest_39
    ·
      refine s_v (fun _ k => tk_aload_n G dX8_nearest_29 1 rfl (tk_ldc G dX8_nearest_30 wK_X8_106 k)) ?_
      refine s_callVI (As := [.int (-100006)]) G dX8_nearest_32 wY_X8_finding wM_X8_60 wI_X8_finding wS_X8_finding (tk_rm hR (by decide) (by decide)) kX8 k0 (by decide) (c_X8_finding E x21.2 a0 (-100006) k0) rfl rfl (Nat.le_of_ble_eq_true rfl) ⟨Nat.zero_le _, Nat.zero_le _⟩ (fun x32 => ?_)
      refine s_v (fun _ k => tk_goto (tgt := 39) G dX8_nearest_35 (by decide) k) ?_
      exact s_iret G dX8_nearest_39
theorem c_X8_nearest (E : tkE) (h : tkH) (a0 : Nat) (a1 : Int32) (k0 : kd a0 = 11) : ∀ x, f_X8_nearest h a0 a1 = some x → tkM E yX8_nearest cX8_nearest 3 (some .int) 5 tkF [.ref (e_ad E a0), .int a1] h (some (.int x.1)) x.2 := fun x hx => tkM_of (by decide) (Nat.le_of_ble_eq_true rfl) (fun _ hR G => w_X8_nearest hR G h a0 a1 k0 x hx)
set_option maxRecDepth 100000 in
set_option maxHeartbeats 4000000 in
theorem w_X8_pair {E : tkE} {X : tkX} (hR : x_R X = tkR 5) (G : tkG E X cX8_pair 6 RX8 (some .int)) (h : tkH) (a0 : Nat) (a1 : Int32) (a2 : Int32) (a3 : Int32) (k0 : kd a0 = 11) : tkS E X 6 0 0 (tkZi E X) 0 [(0, .ref (e_ad E a0)), (1, .int a1), (2, .int a2), (3, .int a3)] [] h (f_X8_pair h a0 a1 a2 a3) := by
  unfold f_X8_pair
  refine s_v (fun _ k => tk_aload_n G dX8_pair_0 0 rfl (tk_gr G kX8 dX8_pair_1 wF_X8_10 k0 gR_8_0 (tk_iload_n G dX8_pair_4 1 rfl (tk_iload_n G dX8_pair_5 3 rfl k)))) ?_
  refine s_callVI (As := [.int a1, .int a3]) G dX8_pair_6 wY_X0_hasStep wM_X8_107 wI_X0_hasStep wS_X0_hasStep (tk_rm hR (by decide) (by decide)) kX0 (kF_8_0 k0) (by decide) (c_X0_hasStep E h (fld a0 0) a1 a3 (kF_8_0 k0)) rfl rfl (Nat.le_of_ble_eq_true rfl) ⟨Nat.zero_le _, Nat.zero_le _⟩ (fun x6 => ?_)
  have hJ23 : ∀ (g23 : tkH), tkS E X 6 0 0 (tkZi E X) 23 [(0, .ref (e_ad E a0))] [] g23 (f_X8_pair_J23 a0 g23) := by
    intro g23
    unfold f_X8_pair_J23
    refine s_v (fun _ k => tk_aload_n G dX8_pair_23 0 rfl (tk_ldc G dX8_pair_24 wK_X8_59 k)) ?_
    refine s_callVI (As := [.int (-100001)]) G dX8_pair_26 wY_X8_finding wM_X8_60 wI_X8_finding wS_X8_finding (tk_rm hR (by decide) (by decide)) kX8 k0 (by decide) (c_X8_finding E g23 a0 (-100001) k0) rfl rfl (Nat.le_of_ble_eq_true rfl) ⟨Nat.zero_le _, Nat.zero_le _⟩ (fun x26 => ?_)
    exact s_iret G dX8_pair_29
  refine s_if_eq (tgt := 23) G dX8_pair_9 (by decide) (fun q9 => ?_) (fun q9 => ?_)
  ·
    refine s_sub [0] (al' := [(0, .ref (e_ad E a0))]) rfl ?_
    exact hJ23 _
  ·
    refine s_v (fun _ k => tk_aload_n G dX8_pair_12 0 rfl (tk_gr G kX8 dX8_pair_13 wF_X8_10 k0 gR_8_0 (tk_iload_n G dX8_pair_16 2 rfl k))) ?_
    refine s_callVI (As := [.int a2]) G dX8_pair_17 wY_X0_hasTale wM_X8_76 wI_X0_hasTale wS_X0_hasTale (tk_rm hR (by decide) (by decide)) kX0 (kF_8_0 k0) (by decide) (c_X0_hasTale E x6.2 (fld a0 0) a2 (kF_8_0 k0)) rfl rfl (Nat.le_of_ble_eq_true rfl) ⟨Nat.zero_le _, Nat.zero_le _⟩ (fun x17 => ?_)
    refine s_if_ne (tgt := 30) G dX8_pair_20 (by decide) (fun q20 => ?_) (fun q20 => ?_)
    ·
      refine s_sub [0] (al' := [(0, .ref (e_ad E a0))]) rfl ?_
      exact hJ23 _
    ·
      refine s_v (fun _ k => tk_iload_n G dX8_pair_30 3 rfl (tk_aload_n G dX8_pair_31 0 rfl (tk_gr G kX8 dX8_pair_32 wF_X8_10 k0 gR_8_0 (tk_iload_n G dX8_pair_35 1 rfl k)))) ?_
      refine s_callVI (As := [.int a1]) G dX8_pair_36 wY_X0_firstLaid wM_X8_172 wI_X0_firstLaid wS_X0_firstLaid (tk_rm hR (by decide) (by decide)) kX0 (kF_8_0 k0) (by decide) (c_X0_firstLaid E x17.2 (fld a0 0) a1 (kF_8_0 k0)) rfl rfl (Nat.le_of_ble_eq_true rfl) ⟨Nat.zero_le _, Nat.zero_le _⟩ (fun x36 => ?_)
      refine s_v (fun _ k => tk_isub G dX8_pair_39 (tk_istore (al' := [(4, .int (a3 - x36.1)), (0, .ref (e_ad E a0)), (1, .int a1), (2, .int a2), (3, .int a3)]) G dX8_pair_40 (by decide) rfl (tk_iload G dX8_pair_42 0 rfl (tk_aload_n G dX8_pair_44 1 rfl (tk_gr G kX8 dX8_pair_45 wF_X8_10 k0 gR_8_0 (tk_iload_n G dX8_pair_48 2 rfl k)))))) ?_
      refine s_callVI (As := [.int a1]) G dX8_pair_49 wY_X0_laidLength wM_X8_129 wI_X0_laidLength wS_X0_laidLength (tk_rm hR (by decide) (by decide)) kX0 (kF_8_0 k0) (by decide) (c_X0_laidLength E x36.2 (fld a0 0) a1 (kF_8_0 k0)) rfl rfl (Nat.le_of_ble_eq_true rfl) ⟨Nat.zero_le _, Nat.zero_le _⟩ (fun x49 => ?_)
      refine s_callSI (As := [.int (a3 - x36.1), .int x49.1]) G dX8_pair_52 wY_X8_isWithin wM_X8_55 wI_X8_isWithin (tk_rm hR (by decide) (by decide)) (c_X8_isWithin E x49.2 (a3 - x36.1) x49.1) rfl rfl (Nat.le_of_ble_eq_true rfl) ⟨Nat.zero_le _, Nat.zero_le _⟩ (fun x52 => ?_)
      refine s_if_ne (tgt := 65) G dX8_pair_55 (by decide) (fun q55 => ?_) (fun q55 => ?_)
      ·
        refine s_v (fun _ k => tk_aload_n G dX8_pair_58 1 rfl (tk_ldc G dX8_pair_59 wK_X8_87 k)) ?_
        refine s_callVI (As := [.int (-100004)]) G dX8_pair_61 wY_X8_finding wM_X8_60 wI_X8_finding wS_X8_finding (tk_rm hR (by decide) (by decide)) kX8 k0 (by decide) (c_X8_finding E x52.2 a0 (-100004) k0) rfl rfl (Nat.le_of_ble_eq_true rfl) ⟨Nat.zero_le _, Nat.zero_le _⟩ (fun x61 => ?_)
        exact s_iret G dX8_pair_64
      ·
        refine s_v (fun _ k => tk_aload_n G dX8_pair_65 1 rfl (tk_gr G kX8 dX8_pair_66 wF_X8_26 k0 gR_8_2 (tk_aload_n G dX8_pair_69 1 rfl (tk_gr G kX8 dX8_pair_70 wF_X8_10 k0 gR_8_0 (tk_iload_n G dX8_pair_73 2 rfl (tk_iload_n G dX8_pair_74 3 rfl k)))))) ?_
        refine s_callVA (As := [.ref (e_ad E (fld a0 0)), .int a1, .int a2]) G dX8_pair_75 wY_X2_pairTales wM_X8_175 wI_X2_pairTales wS_X2_pairTales (tk_rm hR (by decide) (by decide)) kX2 (kF_8_2 k0) (by decide) (c_X2_pairTales E x52.2 (fld a0 2) (fld a0 0) a1 a2 (kF_8_2 k0) (kF_8_0 k0)) rfl rfl (Nat.le_of_ble_eq_true rfl) ⟨Nat.zero_le _, Nat.zero_le _⟩ (fun x75 => ?_)
        refine s_gk (fun kx75 => ?_)
        refine s_v (fun _ k => tk_gr G kX4 dX8_pair_78 wF_X8_178 kx75 gR_4_4 (tk_iload G dX8_pair_81 0 rfl k)) ?_
        refine s_iald G dX8_pair_83 (kF_4_4 kx75) (fun v83 => ?_)
        refine s_v (fun _ k => tk_istore (al' := [(5, .int v83), (4, .int (a3 - x36.1)), (0, .ref (e_ad E a0)), (1, .int a1), (2, .int a2), (3, .int a3)]) G dX8_pair_84 (by decide) rfl (tk_iload G dX8_pair_86 0 rfl k)) ?_
        refine s_if_ge (tgt := 95) G dX8_pair_88 (by decide) (fun q88 => ?_) (fun q88 => ?_)
        ·
          refine s_v (fun _ k => tk_iload G dX8_pair_95 0 rfl (tk_aload_n G dX8_pair_97 2 rfl (tk_gr G kX8 dX8_pair_98 wF_X8_10 k0 gR_8_0 (tk_iload_n G dX8_pair_101 4 rfl k)))) ?_
          refine s_callVI (As := [.int a2]) G dX8_pair_102 wY_X0_firstLaid wM_X8_172 wI_X0_firstLaid wS_X0_firstLaid (tk_rm hR (by decide) (by decide)) kX0 (kF_8_0 k0) (by decide) (c_X0_firstLaid E x75.2 (fld a0 0) a2 (kF_8_0 k0)) rfl rfl (Nat.le_of_ble_eq_true rfl) ⟨Nat.zero_le _, Nat.zero_le _⟩ (fun x102 => ?_)
          refine s_v (fun _ k => tk_iadd G dX8_pair_105 k) ?_
          exact s_iret G dX8_pair_106
        ·
          refine s_v (fun _ k => tk_iconst G dX8_pair_91 cI_m1 (tk_goto (tgt := 106) G dX8_pair_92 (by decide) k)) ?_
          exact s_iret G dX8_pair_106
theorem c_X8_pair (E : tkE) (h : tkH) (a0 : Nat) (a1 : Int32) (a2 : Int32) (a3 : Int32) (k0 : kd a0 = 11) : ∀ x, f_X8_pair h a0 a1 a2 a3 = some x → tkM E yX8_pair cX8_pair 6 (some .int) 5 tkF [.ref (e_ad E a0), .int a1, .int a2, .int a3] h (some (.int x.1)) x.2 := fun x hx => tkM_of (by decide) (Nat.le_of_ble_eq_true rfl) (fun _ hR G => w_X8_pair hR G h a0 a1 a2 a3 k0 x hx)
set_option maxRecDepth 100000 in
set_option maxHeartbeats 4000000 in
theorem w_X8_pairs {E : tkE} {X : tkX} (hR : x_R X = tkR 5) (G : tkG E X cX8_pairs 4 RX8 (some .int)) (h : tkH) (a0 : Nat) (a1 : Int32) (a2 : Int32) (a3 : Int32) (k0 : kd a0 = 11) : tkS E X 4 0 0 (tkZi E X) 0 [(0, .ref (e_ad E a0)), (1, .int a1), (2, .int a2), (3, .int a3)] [] h (f_X8_pairs h a0 a1 a2 a3) := by
  unfold f_X8_pairs
  refine s_v (fun _ k => tk_aload_n G dX8_pairs_0 0 rfl (tk_gr G kX8 dX8_pairs_1 wF_X8_10 k0 gR_8_0 (tk_iload_n G dX8_pairs_4 1 rfl k))) ?_
  refine s_callVI (As := [.int a1]) G dX8_pairs_5 wY_X0_hasTale wM_X8_76 wI_X0_hasTale wS_X0_hasTale (tk_rm hR (by decide) (by decide)) kX0 (kF_8_0 k0) (by decide) (c_X0_hasTale E h (fld a0 0) a1 (kF_8_0 k0)) rfl rfl (Nat.le_of_ble_eq_true rfl) ⟨Nat.zero_le _, Nat.zero_le _⟩ (fun x5 => ?_)
  have hJ22 : ∀ (g22 : tkH), tkS E X 4 0 0 (tkZi E X) 22 [(0, .ref (e_ad E a0))] [] g22 (f_X8_pairs_J22 a0 g22) := by
    intro g22
    unfold f_X8_pairs_J22
    refine s_v (fun _ k => tk_aload_n G dX8_pairs_22 0 rfl (tk_ldc G dX8_pairs_23 wK_X8_59 k)) ?_
    refine s_callVI (As := [.int (-100001)]) G dX8_pairs_25 wY_X8_finding wM_X8_60 wI_X8_finding wS_X8_finding (tk_rm hR (by decide) (by decide)) kX8 k0 (by decide) (c_X8_finding E g22 a0 (-100001) k0) rfl rfl (Nat.le_of_ble_eq_true rfl) ⟨Nat.zero_le _, Nat.zero_le _⟩ (fun x25 => ?_)
    exact s_iret G dX8_pairs_28
  refine s_if_eq (tgt := 22) G dX8_pairs_8 (by decide) (fun q8 => ?_) (fun q8 => ?_)
  ·
    refine s_sub [0] (al' := [(0, .ref (e_ad E a0))]) rfl ?_
    exact hJ22 _
  ·
    refine s_v (fun _ k => tk_aload_n G dX8_pairs_11 0 rfl (tk_gr G kX8 dX8_pairs_12 wF_X8_10 k0 gR_8_0 (tk_iload_n G dX8_pairs_15 2 rfl k))) ?_
    refine s_callVI (As := [.int a2]) G dX8_pairs_16 wY_X0_hasTale wM_X8_76 wI_X0_hasTale wS_X0_hasTale (tk_rm hR (by decide) (by decide)) kX0 (kF_8_0 k0) (by decide) (c_X0_hasTale E x5.2 (fld a0 0) a2 (kF_8_0 k0)) rfl rfl (Nat.le_of_ble_eq_true rfl) ⟨Nat.zero_le _, Nat.zero_le _⟩ (fun x16 => ?_)
    refine s_if_ne (tgt := 29) G dX8_pairs_19 (by decide) (fun q19 => ?_) (fun q19 => ?_)
    ·
      refine s_sub [0] (al' := [(0, .ref (e_ad E a0))]) rfl ?_
      exact hJ22 _
    ·
      refine s_v (fun _ k => tk_aload_n G dX8_pairs_29 0 rfl (tk_gr G kX8 dX8_pairs_30 wF_X8_26 k0 gR_8_2 (tk_aload_n G dX8_pairs_33 0 rfl (tk_gr G kX8 dX8_pairs_34 wF_X8_10 k0 gR_8_0 (tk_iload_n G dX8_pairs_37 1 rfl (tk_iload_n G dX8_pairs_38 2 rfl k)))))) ?_
      refine s_callVA (As := [.ref (e_ad E (fld a0 0)), .int a1, .int a2]) G dX8_pairs_39 wY_X2_pairTales wM_X8_175 wI_X2_pairTales wS_X2_pairTales (tk_rm hR (by decide) (by decide)) kX2 (kF_8_2 k0) (by decide) (c_X2_pairTales E x16.2 (fld a0 2) (fld a0 0) a1 a2 (kF_8_2 k0) (kF_8_0 k0)) rfl rfl (Nat.le_of_ble_eq_true rfl) ⟨Nat.zero_le _, Nat.zero_le _⟩ (fun x39 => ?_)
      refine s_gk (fun kx39 => ?_)
      refine s_v (fun _ k => tk_iload_n G dX8_pairs_42 3 rfl k) ?_
      refine s_callVI (As := [.int a3]) G dX8_pairs_43 wY_X4_howManyPairs wM_X8_181 wI_X4_howManyPairs wS_X4_howManyPairs (tk_rm hR (by decide) (by decide)) kX4 kx39 (by decide) (c_X4_howManyPairs E x39.2 x39.1 a3 kx39) rfl rfl (Nat.le_of_ble_eq_true rfl) ⟨Nat.zero_le _, Nat.zero_le _⟩ (fun x43 => ?_)
      exact s_iret G dX8_pairs_46
theorem c_X8_pairs (E : tkE) (h : tkH) (a0 : Nat) (a1 : Int32) (a2 : Int32) (a3 : Int32) (k0 : kd a0 = 11) : ∀ x, f_X8_pairs h a0 a1 a2 a3 = some x → tkM E yX8_pairs cX8_pairs 4 (some .int) 5 tkF [.ref (e_ad E a0), .int a1, .int a2, .int a3] h (some (.int x.1)) x.2 := fun x hx => tkM_of (by decide) (Nat.le_of_ble_eq_true rfl) (fun _ hR G => w_X8_pairs hR G h a0 a1 a2 a3 k0 x hx)
set_option maxRecDepth 100000 in
set_option maxHeartbeats 4000000 in
theorem w_X8_sourceOf {E : tkE} {X : tkX} (hR : x_R X = tkR 5) (G : tkG E X cX8_sourceOf 2 RX8 (some .int)) (h : tkH) (a0 : Nat) (a1 : Int32) (k0 : kd a0 = 11) : tkS E X 2 0 0 (tkZi E X) 0 [(0, .ref (e_ad E a0)), (1, .int a1)] [] h (f_X8_sourceOf h a0 a1) := by
  unfold f_X8_sourceOf
  refine s_v (fun _ k => tk_aload_n G dX8_sourceOf_0 0 rfl (tk_gr G kX8 dX8_sourceOf_1 wF_X8_10 k0 gR_8_0 (tk_gr G kX0 dX8_sourceOf_4 wF_X8_132 (kF_8_0 k0) gR_0_4 (tk_iload_n G dX8_sourceOf_7 1 rfl k)))) ?_
  refine s_iald G dX8_sourceOf_8 (kF_0_4 (kF_8_0 k0)) (fun v8 => ?_)
  refine s_if_lt (tgt := 24) G dX8_sourceOf_9 (by decide) (fun q9 => ?_) (fun q9 => ?_)
  ·
    refine s_v (fun _ k => tk_aload_n G dX8_sourceOf_24 0 rfl (tk_iload_n G dX8_sourceOf_25 1 rfl (tk_iconst G dX8_sourceOf_26 cI_1 k))) ?_
    refine s_callVI (As := [.int a1, .int 1]) G dX8_sourceOf_27 wY_X8_cheapestBeside wM_X8_214 wI_X8_cheapestBeside wS_X8_cheapestBeside (tk_rm hR (by decide) (by decide)) kX8 k0 (by decide) (c_X8_cheapestBeside E h a0 a1 1 k0) rfl rfl (Nat.le_of_ble_eq_true rfl) ⟨Nat.zero_le _, Nat.zero_le _⟩ (fun x27 => ?_)
    exact s_iret G dX8_sourceOf_30
  ·
    refine s_v (fun _ k => tk_aload_n G dX8_sourceOf_12 0 rfl (tk_gr G kX8 dX8_sourceOf_13 wF_X8_10 k0 gR_8_0 (tk_gr G kX0 dX8_sourceOf_16 wF_X8_132 (kF_8_0 k0) gR_0_4 (tk_iload_n G dX8_sourceOf_19 1 rfl k)))) ?_
    refine s_iald G dX8_sourceOf_20 (kF_0_4 (kF_8_0 k0)) (fun v20 => ?_)
    refine s_v (fun _ k => tk_goto (tgt := 30) G dX8_sourceOf_21 (by decide) k) ?_
    exact s_iret G dX8_sourceOf_30
theorem c_X8_sourceOf (E : tkE) (h : tkH) (a0 : Nat) (a1 : Int32) (k0 : kd a0 = 11) : ∀ x, f_X8_sourceOf h a0 a1 = some x → tkM E yX8_sourceOf cX8_sourceOf 2 (some .int) 5 tkF [.ref (e_ad E a0), .int a1] h (some (.int x.1)) x.2 := fun x hx => tkM_of (by decide) (Nat.le_of_ble_eq_true rfl) (fun _ hR G => w_X8_sourceOf hR G h a0 a1 k0 x hx)
set_option maxRecDepth 100000 in
set_option maxHeartbeats 4000000 in
theorem w_X8_spread {E : tkE} {X : tkX} (hR : x_R X = tkR 5) (G : tkG E X cX8_spread 3 RX8 (some .int)) (h : tkH) (a0 : Nat) (a1 : Int32) (k0 : kd a0 = 11) : tkS E X 3 0 0 (tkZi E X) 0 [(0, .ref (e_ad E a0)), (1, .int a1)] [] h (f_X8_spread h a0 a1) := by
  unfold f_X8_spread
  refine s_v (fun _ k => tk_aload_n G dX8_spread_0 0 rfl (tk_iload_n G dX8_spread_1 1 rfl k)) ?_
  refine s_callVI (As := [.int a1]) G dX8_spread_2 wY_X8_heapRefusal wM_X8_185 wI_X8_heapRefusal wS_X8_heapRefusal (tk_rm hR (by decide) (by decide)) kX8 k0 (by decide) (c_X8_heapRefusal E h a0 a1 k0) rfl rfl (Nat.le_of_ble_eq_true rfl) ⟨Nat.zero_le _, Nat.zero_le _⟩ (fun x2 => ?_)
  refine s_v (fun _ k => tk_istore_n (al' := [(2, .int x2.1), (0, .ref (e_ad E a0)), (1, .int a1)]) G dX8_spread_5 (by decide) rfl (tk_iload_n G dX8_spread_6 0 rfl k)) ?_
  refine s_if_ge (tgt := 16) G dX8_spread_7 (by decide) (fun q7 => ?_) (fun q7 => ?_)
  ·
    refine s_v (fun _ k => tk_aload_n G dX8_spread_16 1 rfl (tk_gr G kX8 dX8_spread_17 wF_X8_26 k0 gR_8_2 (tk_aload_n G dX8_spread_20 1 rfl (tk_gr G kX8 dX8_spread_21 wF_X8_10 k0 gR_8_0 (tk_iload_n G dX8_spread_24 2 rfl k))))) ?_
    refine s_callVV (As := [.ref (e_ad E (fld a0 0)), .int a1]) G dX8_spread_25 wY_X2_reckonHeap wM_X8_188 wI_X2_reckonHeap wS_X2_reckonHeap (tk_rm hR (by decide) (by decide)) kX2 (kF_8_2 k0) (by decide) (c_X2_reckonHeap E x2.2 (fld a0 2) (fld a0 0) a1 (kF_8_2 k0) (kF_8_0 k0)) rfl rfl (Nat.le_of_ble_eq_true rfl) ⟨Nat.zero_le _, Nat.zero_le _⟩ (fun x25 => ?_)
    refine s_v (fun _ k => tk_aload_n G dX8_spread_28 1 rfl (tk_aload_n G dX8_spread_29 1 rfl (tk_iload_n G dX8_spread_30 2 rfl k))) ?_
    refine s_callVI (As := [.int a1]) G dX8_spread_31 wY_X8_mouldOf wM_X8_192 wI_X8_mouldOf wS_X8_mouldOf (tk_rm hR (by decide) (by decide)) kX8 k0 (by decide) (c_X8_mouldOf E x25 a0 a1 k0) rfl rfl (Nat.le_of_ble_eq_true rfl) ⟨Nat.zero_le _, Nat.zero_le _⟩ (fun x31 => ?_)
    refine s_v (fun _ k => tk_iload_n G dX8_spread_34 2 rfl k) ?_
    refine s_callVI (As := [.int x31.1, .int a1]) G dX8_spread_35 wY_X8_sumOfCosts wM_X8_195 wI_X8_sumOfCosts wS_X8_sumOfCosts (tk_rm hR (by decide) (by decide)) kX8 k0 (by decide) (c_X8_sumOfCosts E x31.2 a0 x31.1 a1 k0) rfl rfl (Nat.le_of_ble_eq_true rfl) ⟨Nat.zero_le _, Nat.zero_le _⟩ (fun x35 => ?_)
    exact s_iret G dX8_spread_38
  ·
    refine s_v (fun _ k => tk_aload_n G dX8_spread_10 1 rfl (tk_iload_n G dX8_spread_11 0 rfl k)) ?_
    refine s_callVI (As := [.int x2.1]) G dX8_spread_12 wY_X8_finding wM_X8_60 wI_X8_finding wS_X8_finding (tk_rm hR (by decide) (by decide)) kX8 k0 (by decide) (c_X8_finding E x2.2 a0 x2.1 k0) rfl rfl (Nat.le_of_ble_eq_true rfl) ⟨Nat.zero_le _, Nat.zero_le _⟩ (fun x12 => ?_)
    exact s_iret G dX8_spread_15
theorem c_X8_spread (E : tkE) (h : tkH) (a0 : Nat) (a1 : Int32) (k0 : kd a0 = 11) : ∀ x, f_X8_spread h a0 a1 = some x → tkM E yX8_spread cX8_spread 3 (some .int) 5 tkF [.ref (e_ad E a0), .int a1] h (some (.int x.1)) x.2 := fun x hx => tkM_of (by decide) (Nat.le_of_ble_eq_true rfl) (fun _ hR G => w_X8_spread hR G h a0 a1 k0 x hx)
set_option maxRecDepth 100000 in
set_option maxHeartbeats 4000000 in
theorem w_X8_tree {E : tkE} {X : tkX} (hR : x_R X = tkR 5) (G : tkG E X cX8_tree 3 RX8 (some .int)) (h : tkH) (a0 : Nat) (a1 : Int32) (k0 : kd a0 = 11) : tkS E X 3 0 0 (tkZi E X) 0 [(0, .ref (e_ad E a0)), (1, .int a1)] [] h (f_X8_tree h a0 a1) := by
  unfold f_X8_tree
  refine s_v (fun _ k => tk_aload_n G dX8_tree_0 0 rfl (tk_iload_n G dX8_tree_1 1 rfl k)) ?_
  refine s_callVI (As := [.int a1]) G dX8_tree_2 wY_X8_heapRefusal wM_X8_185 wI_X8_heapRefusal wS_X8_heapRefusal (tk_rm hR (by decide) (by decide)) kX8 k0 (by decide) (c_X8_heapRefusal E h a0 a1 k0) rfl rfl (Nat.le_of_ble_eq_true rfl) ⟨Nat.zero_le _, Nat.zero_le _⟩ (fun x2 => ?_)
  refine s_v (fun _ k => tk_istore_n (al' := [(2, .int x2.1), (0, .ref (e_ad E a0)), (1, .int a1)]) G dX8_tree_5 (by decide) rfl (tk_iload_n G dX8_tree_6 0 rfl k)) ?_
  refine s_if_ge (tgt := 16) G dX8_tree_7 (by decide) (fun q7 => ?_) (fun q7 => ?_)
  ·
    refine s_v (fun _ k => tk_aload_n G dX8_tree_16 1 rfl (tk_gr G kX8 dX8_tree_17 wF_X8_26 k0 gR_8_2 (tk_aload_n G dX8_tree_20 1 rfl (tk_gr G kX8 dX8_tree_21 wF_X8_10 k0 gR_8_0 (tk_iload_n G dX8_tree_24 2 rfl k))))) ?_
    refine s_callVV (As := [.ref (e_ad E (fld a0 0)), .int a1]) G dX8_tree_25 wY_X2_reckonHeap wM_X8_188 wI_X2_reckonHeap wS_X2_reckonHeap (tk_rm hR (by decide) (by decide)) kX2 (kF_8_2 k0) (by decide) (c_X2_reckonHeap E x2.2 (fld a0 2) (fld a0 0) a1 (kF_8_2 k0) (kF_8_0 k0)) rfl rfl (Nat.le_of_ble_eq_true rfl) ⟨Nat.zero_le _, Nat.zero_le _⟩ (fun x25 => ?_)
    refine s_v (fun _ k => tk_aload_n G dX8_tree_28 1 rfl (tk_gr G kX8 dX8_tree_29 wF_X8_33 k0 gR_8_3 (tk_aload_n G dX8_tree_32 1 rfl (tk_gr G kX8 dX8_tree_33 wF_X8_26 k0 gR_8_2 (tk_gr G kX2 dX8_tree_36 wF_X8_198 (kF_8_2 k0) gR_2_1 (tk_iload_n G dX8_tree_39 2 rfl k)))))) ?_
    refine s_callVV (As := [.ref (e_ad E (fld (fld a0 2) 1)), .int a1]) G dX8_tree_40 wY_X7_grow wM_X8_201 wI_X7_grow wS_X7_grow (tk_rm hR (by decide) (by decide)) kX7 (kF_8_3 k0) (by decide) (c_X7_grow E x25 (fld a0 3) (fld (fld a0 2) 1) a1 (kF_8_3 k0) (kF_2_1 (kF_8_2 k0))) rfl rfl (Nat.le_of_ble_eq_true rfl) ⟨Nat.zero_le _, Nat.zero_le _⟩ (fun x40 => ?_)
    refine s_v (fun _ k => tk_aload_n G dX8_tree_43 1 rfl (tk_gr G kX8 dX8_tree_44 wF_X8_33 k0 gR_8_3 (tk_gi G kX7 dX8_tree_47 wF_X8_205 (kF_8_3 k0) gI_7_3 k))) ?_
    exact s_iret G dX8_tree_50
  ·
    refine s_v (fun _ k => tk_aload_n G dX8_tree_10 1 rfl (tk_iload_n G dX8_tree_11 0 rfl k)) ?_
    refine s_callVI (As := [.int x2.1]) G dX8_tree_12 wY_X8_finding wM_X8_60 wI_X8_finding wS_X8_finding (tk_rm hR (by decide) (by decide)) kX8 k0 (by decide) (c_X8_finding E x2.2 a0 x2.1 k0) rfl rfl (Nat.le_of_ble_eq_true rfl) ⟨Nat.zero_le _, Nat.zero_le _⟩ (fun x12 => ?_)
    exact s_iret G dX8_tree_15
theorem c_X8_tree (E : tkE) (h : tkH) (a0 : Nat) (a1 : Int32) (k0 : kd a0 = 11) : ∀ x, f_X8_tree h a0 a1 = some x → tkM E yX8_tree cX8_tree 3 (some .int) 5 tkF [.ref (e_ad E a0), .int a1] h (some (.int x.1)) x.2 := fun x hx => tkM_of (by decide) (Nat.le_of_ble_eq_true rfl) (fun _ hR G => w_X8_tree hR G h a0 a1 k0 x hx)
set_option maxRecDepth 100000 in
set_option maxHeartbeats 4000000 in
theorem w_X9_costOf {E : tkE} {X : tkX} (hR : x_R X = tkR 5) (G : tkG E X cX9_costOf 3 RX9 (some .int)) (h : tkH) (a0 : Nat) (a1 : Int32) (a2 : Int32) (k0 : kd a0 = 12) : tkS E X 3 0 0 (tkZi E X) 0 [(0, .ref (e_ad E a0)), (1, .int a1), (2, .int a2)] [] h (f_X9_costOf h a0 a1 a2) := by
  unfold f_X9_costOf
  refine s_v (fun _ k => tk_aload_n G dX9_costOf_0 0 rfl (tk_iload_n G dX9_costOf_1 1 rfl (tk_iload_n G dX9_costOf_2 2 rfl k))) ?_
  refine s_callVV (As := [.int a1, .int a2]) G dX9_costOf_3 wY_X9_takeTwo wM_X9_164 wI_X9_takeTwo wS_X9_takeTwo (tk_rm hR (by decide) (by decide)) kX9 k0 (by decide) (c_X9_takeTwo E h a0 a1 a2 k0) rfl rfl (Nat.le_of_ble_eq_true rfl) ⟨Nat.zero_le _, Nat.zero_le _⟩ (fun x3 => ?_)
  refine s_v (fun _ k => tk_aload_n G dX9_costOf_6 0 rfl k) ?_
  refine s_callVI (As := []) G dX9_costOf_7 wY_X9_leastCost wM_X9_168 wI_X9_leastCost wS_X9_leastCost (tk_rm hR (by decide) (by decide)) kX9 k0 (by decide) (c_X9_leastCost E x3 a0 k0) rfl rfl (Nat.le_of_ble_eq_true rfl) ⟨Nat.zero_le _, Nat.zero_le _⟩ (fun x7 => ?_)
  exact s_iret G dX9_costOf_10
theorem c_X9_costOf (E : tkE) (h : tkH) (a0 : Nat) (a1 : Int32) (a2 : Int32) (k0 : kd a0 = 12) : ∀ x, f_X9_costOf h a0 a1 a2 = some x → tkM E yX9_costOf cX9_costOf 3 (some .int) 5 tkF [.ref (e_ad E a0), .int a1, .int a2] h (some (.int x.1)) x.2 := fun x hx => tkM_of (by decide) (Nat.le_of_ble_eq_true rfl) (fun _ hR G => w_X9_costOf hR G h a0 a1 a2 k0 x hx)
set_option maxRecDepth 100000 in
set_option maxHeartbeats 4000000 in
theorem w_X9_joined {E : tkE} {X : tkX} (hR : x_R X = tkR 5) (G : tkG E X cX9_joined 9 RX9 (some .int)) (h : tkH) (a0 : Nat) (a1 : Int32) (a2 : Int32) (a3 : Int32) (a4 : Int32) (k0 : kd a0 = 12) : tkS E X 9 0 0 (tkZi E X) 0 [(0, .ref (e_ad E a0)), (1, .int a1), (2, .int a2), (3, .int a3), (4, .int a4)] [] h (f_X9_joined h a0 a1 a2 a3 a4) := by
  unfold f_X9_joined
  refine s_v (fun _ k => tk_aload_n G dX9_joined_0 0 rfl (tk_iload_n G dX9_joined_1 1 rfl k)) ?_
  refine s_callVI (As := [.int a1]) G dX9_joined_2 wY_X9_isTale wM_X9_71 wI_X9_isTale wS_X9_isTale (tk_rm hR (by decide) (by decide)) kX9 k0 (by decide) (c_X9_isTale E h a0 a1 k0) rfl rfl (Nat.le_of_ble_eq_true rfl) ⟨Nat.zero_le _, Nat.zero_le _⟩ (fun x2 => ?_)
  have hJ24 : ∀ (g24 : tkH), tkS E X 9 0 0 (tkZi E X) 24 [(0, .ref (e_ad E a0))] [] g24 (f_X9_joined_J24 a0 g24) := by
    intro g24
    unfold f_X9_joined_J24
    refine s_v (fun _ k => tk_aload_n G dX9_joined_24 0 rfl (tk_ldc G dX9_joined_25 wK_X9_66 k)) ?_
    refine s_callVI (As := [.int (-100001)]) G dX9_joined_27 wY_X9_finding wM_X9_58 wI_X9_finding wS_X9_finding (tk_rm hR (by decide) (by decide)) kX9 k0 (by decide) (c_X9_finding E g24 a0 (-100001) k0) rfl rfl (Nat.le_of_ble_eq_true rfl) ⟨Nat.zero_le _, Nat.zero_le _⟩ (fun x27 => ?_)
    exact s_iret G dX9_joined_30
  refine s_if_eq (tgt := 24) G dX9_joined_5 (by decide) (fun q5 => ?_) (fun q5 => ?_)
  ·
    refine s_sub [0] (al' := [(0, .ref (e_ad E a0))]) rfl ?_
    exact hJ24 _
  ·
    refine s_v (fun _ k => tk_aload_n G dX9_joined_8 0 rfl (tk_iload_n G dX9_joined_9 2 rfl k)) ?_
    refine s_callVI (As := [.int a2]) G dX9_joined_10 wY_X9_isTale wM_X9_71 wI_X9_isTale wS_X9_isTale (tk_rm hR (by decide) (by decide)) kX9 k0 (by decide) (c_X9_isTale E x2.2 a0 a2 k0) rfl rfl (Nat.le_of_ble_eq_true rfl) ⟨Nat.zero_le _, Nat.zero_le _⟩ (fun x10 => ?_)
    refine s_if_eq (tgt := 24) G dX9_joined_13 (by decide) (fun q13 => ?_) (fun q13 => ?_)
    ·
      refine s_sub [0] (al' := [(0, .ref (e_ad E a0))]) rfl ?_
      exact hJ24 _
    ·
      refine s_v (fun _ k => tk_aload_n G dX9_joined_16 0 rfl (tk_iload_n G dX9_joined_17 3 rfl k)) ?_
      refine s_callVI (As := [.int a3]) G dX9_joined_18 wY_X9_isTale wM_X9_71 wI_X9_isTale wS_X9_isTale (tk_rm hR (by decide) (by decide)) kX9 k0 (by decide) (c_X9_isTale E x10.2 a0 a3 k0) rfl rfl (Nat.le_of_ble_eq_true rfl) ⟨Nat.zero_le _, Nat.zero_le _⟩ (fun x18 => ?_)
      refine s_if_ne (tgt := 31) G dX9_joined_21 (by decide) (fun q21 => ?_) (fun q21 => ?_)
      ·
        refine s_sub [0] (al' := [(0, .ref (e_ad E a0))]) rfl ?_
        exact hJ24 _
      ·
        refine s_v (fun _ k => tk_iconst G dX9_joined_31 cI_0 (tk_istore (al' := [(5, .int 0), (0, .ref (e_ad E a0)), (1, .int a1), (2, .int a2), (3, .int a3), (4, .int a4)]) G dX9_joined_32 (by decide) rfl (tk_ldc G dX9_joined_34 wK_X9_151 (tk_istore (al' := [(6, .int 1000000), (5, .int 0), (0, .ref (e_ad E a0)), (1, .int a1), (2, .int a2), (3, .int a3), (4, .int a4)]) G dX9_joined_36 (by decide) rfl (tk_iconst G dX9_joined_38 cI_0 (tk_istore (al' := [(7, .int 0), (6, .int 1000000), (5, .int 0), (0, .ref (e_ad E a0)), (1, .int a1), (2, .int a2), (3, .int a3), (4, .int a4)]) G dX9_joined_39 (by decide) rfl k)))))) ?_
        have hX105 : ∀ (gz105 : tkH) (z105_5 : Int32) (z105_6 : Int32), tkS E X 9 0 0 (tkZi E X) 105 [(4, .int a4), (5, .int z105_5), (6, .int z105_6)] [] gz105 (if a4 = 0 then (some (z105_5, gz105)) else (some (z105_6, gz105))) := by
          intro gz105 z105_5 z105_6
          refine s_v (fun _ k => tk_iload G dX9_joined_105 0 rfl k) ?_
          refine s_if_eq (tgt := 115) G dX9_joined_107 (by decide) (fun q107 => ?_) (fun q107 => ?_)
          ·
            refine s_v (fun _ k => tk_iload G dX9_joined_115 1 rfl k) ?_
            exact s_iret G dX9_joined_117
          ·
            refine s_v (fun _ k => tk_iload G dX9_joined_110 2 rfl (tk_goto (tgt := 117) G dX9_joined_112 (by decide) k)) ?_
            exact s_iret G dX9_joined_117
        refine s_sub [3, 4, 5, 6, 7, 2, 1, 0] (al' := [(0, .ref (e_ad E a0)), (1, .int a1), (2, .int a2), (3, .int a3), (4, .int a4), (5, .int 0), (6, .int 1000000), (7, .int 0)]) rfl ?_
        unfold f_X9_joined_L41
        refine s_lp3 (al := fun y41_5 y41_6 y41_7 => [(0, .ref (e_ad E a0)), (1, .int a1), (2, .int a2), (3, .int a3), (4, .int a4), (5, .int y41_5), (6, .int y41_6), (7, .int y41_7)]) (fun kk41 hL41 g41 y41_5 y41_6 y41_7 => ?_) _ _ _ _ _
        refine s_v (fun _ k => tk_iload G dX9_joined_41 7 rfl (tk_aload_n G dX9_joined_43 0 rfl (tk_gr G kX9 dX9_joined_44 wF_X9_9 k0 gR_9_0 (tk_bipush G dX9_joined_47 cB_70 (tk_iload_n G dX9_joined_49 1 rfl (tk_iadd G dX9_joined_50 k)))))) ?_
        refine s_iald G dX9_joined_51 (kF_9_0 k0) (fun v51 => ?_)
        refine s_icmp_gt (tgt := 105) G dX9_joined_52 (by decide) (fun q52 => ?_) (fun q52 => ?_)
        ·
          refine s_sub [4, 5, 6] (al' := [(4, .int a4), (5, .int y41_5), (6, .int y41_6)]) rfl ?_
          exact hX105 _ _ _
        ·
          refine s_v (fun _ k => tk_aload_n G dX9_joined_55 0 rfl (tk_iload_n G dX9_joined_56 1 rfl (tk_iconst G dX9_joined_57 cI_0 (tk_iload G dX9_joined_58 7 rfl (tk_iload_n G dX9_joined_60 2 rfl k))))) ?_
          refine s_callVI (As := [.int a1, .int 0, .int y41_7, .int a2]) G dX9_joined_61 wY_X9_partCost wM_X9_225 wI_X9_partCost wS_X9_partCost (tk_rm hR (by decide) (by decide)) kX9 k0 (by decide) (c_X9_partCost E g41 a0 a1 0 y41_7 a2 k0) rfl rfl (Nat.le_of_ble_eq_true rfl) ⟨Nat.zero_le _, Nat.zero_le _⟩ (fun x61 => ?_)
          refine s_v (fun _ k => tk_aload_n G dX9_joined_64 0 rfl (tk_iload_n G dX9_joined_65 1 rfl (tk_iload G dX9_joined_66 7 rfl (tk_aload_n G dX9_joined_68 0 rfl (tk_gr G kX9 dX9_joined_69 wF_X9_9 k0 gR_9_0 (tk_bipush G dX9_joined_72 cB_70 (tk_iload_n G dX9_joined_74 1 rfl (tk_iadd G dX9_joined_75 k)))))))) ?_
          refine s_iald G dX9_joined_76 (kF_9_0 k0) (fun v76 => ?_)
          refine s_v (fun _ k => tk_iload_n G dX9_joined_77 3 rfl k) ?_
          refine s_callVI (As := [.int a1, .int y41_7, .int v76, .int a3]) G dX9_joined_78 wY_X9_partCost wM_X9_225 wI_X9_partCost wS_X9_partCost (tk_rm hR (by decide) (by decide)) kX9 k0 (by decide) (c_X9_partCost E x61.2 a0 a1 y41_7 v76 a3 k0) rfl rfl (Nat.le_of_ble_eq_true rfl) ⟨Nat.zero_le _, Nat.zero_le _⟩ (fun x78 => ?_)
          refine s_v (fun _ k => tk_iadd G dX9_joined_81 (tk_istore (al' := [(8, .int (x61.1 + x78.1)), (0, .ref (e_ad E a0)), (1, .int a1), (2, .int a2), (3, .int a3), (4, .int a4), (5, .int y41_5), (6, .int y41_6), (7, .int y41_7)]) G dX9_joined_82 (by decide) rfl (tk_iload G dX9_joined_84 0 rfl (tk_iload G dX9_joined_86 7 rfl k)))) ?_
          refine s_icmp_ge (tgt := 99) G dX9_joined_88 (by decide) (fun q88 => ?_) (fun q88 => ?_)
          ·
            refine s_v (fun _ k => tk_iinc (al' := [(7, .int (y41_7 + 1)), (8, .int (x61.1 + x78.1)), (0, .ref (e_ad E a0)), (1, .int a1), (2, .int a2), (3, .int a3), (4, .int a4), (5, .int y41_5), (6, .int y41_6)]) G dX9_joined_99 8 rfl (ci_1 _) (by decide) rfl (tk_goto (tgt := 41) G dX9_joined_102 (by decide) k)) ?_
            refine s_sub [2, 3, 4, 5, 6, 7, 8, 0] (al' := [(0, .ref (e_ad E a0)), (1, .int a1), (2, .int a2), (3, .int a3), (4, .int a4), (5, .int y41_5), (6, .int y41_6), (7, .int (y41_7 + 1))]) rfl ?_
            exact hL41 _ _ _ _
          ·
            refine s_v (fun _ k => tk_iload G dX9_joined_91 0 rfl (tk_istore (al' := [(6, .int (x61.1 + x78.1)), (8, .int (x61.1 + x78.1)), (0, .ref (e_ad E a0)), (1, .int a1), (2, .int a2), (3, .int a3), (4, .int a4), (5, .int y41_5), (7, .int y41_7)]) G dX9_joined_93 (by decide) rfl (tk_iload G dX9_joined_95 8 rfl (tk_istore (al' := [(5, .int y41_7), (6, .int (x61.1 + x78.1)), (8, .int (x61.1 + x78.1)), (0, .ref (e_ad E a0)), (1, .int a1), (2, .int a2), (3, .int a3), (4, .int a4), (7, .int y41_7)]) G dX9_joined_97 (by decide) rfl (tk_iinc (al' := [(7, .int (y41_7 + 1)), (5, .int y41_7), (6, .int (x61.1 + x78.1)), (8, .int (x61.1 + x78.1)), (0, .ref (e_ad E a0)), (1, .int a1), (2, .int a2), (3, .int a3), (4, .int a4)]) G dX9_joined_99 8 rfl (ci_1 _) (by decide) rfl (tk_goto (tgt := 41) G dX9_joined_102 (by decide) k)))))) ?_
            refine s_sub [4, 5, 6, 7, 8, 1, 2, 0] (al' := [(0, .ref (e_ad E a0)), (1, .int a1), (2, .int a2), (3, .int a3), (4, .int a4), (5, .int y41_7), (6, .int (x61.1 + x78.1)), (7, .int (y41_7 + 1))]) rfl ?_
            exact hL41 _ _ _ _
theorem c_X9_joined (E : tkE) (h : tkH) (a0 : Nat) (a1 : Int32) (a2 : Int32) (a3 : Int32) (a4 : Int32) (k0 : kd a0 = 12) : ∀ x, f_X9_joined h a0 a1 a2 a3 a4 = some x → tkM E yX9_joined cX9_joined 9 (some .int) 5 tkF [.ref (e_ad E a0), .int a1, .int a2, .int a3, .int a4] h (some (.int x.1)) x.2 := fun x hx => tkM_of (by decide) (Nat.le_of_ble_eq_true rfl) (fun _ hR G => w_X9_joined hR G h a0 a1 a2 a3 a4 k0 x hx)
set_option maxRecDepth 100000 in
set_option maxHeartbeats 4000000 in
theorem w_X8_first {E : tkE} {X : tkX} (hR : x_R X = tkR 6) (G : tkG E X cX8_first 5 RX8 (some .int)) (h : tkH) (a0 : Nat) (a1 : Int32) (k0 : kd a0 = 11) : tkS E X 5 0 0 (tkZi E X) 0 [(0, .ref (e_ad E a0)), (1, .int a1)] [] h (f_X8_first h a0 a1) := by
  unfold f_X8_first
  refine s_v (fun _ k => tk_aload_n G dX8_first_0 0 rfl (tk_gr G kX8 dX8_first_1 wF_X8_10 k0 gR_8_0 (tk_iload_n G dX8_first_4 1 rfl k))) ?_
  refine s_callVI (As := [.int a1]) G dX8_first_5 wY_X0_hasTale wM_X8_76 wI_X0_hasTale wS_X0_hasTale (tk_rm hR (by decide) (by decide)) kX0 (kF_8_0 k0) (by decide) (c_X0_hasTale E h (fld a0 0) a1 (kF_8_0 k0)) rfl rfl (Nat.le_of_ble_eq_true rfl) ⟨Nat.zero_le _, Nat.zero_le _⟩ (fun x5 => ?_)
  refine s_if_ne (tgt := 18) G dX8_first_8 (by decide) (fun q8 => ?_) (fun q8 => ?_)
  ·
    refine s_v (fun _ k => tk_aload_n G dX8_first_11 0 rfl (tk_ldc G dX8_first_12 wK_X8_59 k)) ?_
    refine s_callVI (As := [.int (-100001)]) G dX8_first_14 wY_X8_finding wM_X8_60 wI_X8_finding wS_X8_finding (tk_rm hR (by decide) (by decide)) kX8 k0 (by decide) (c_X8_finding E x5.2 a0 (-100001) k0) rfl rfl (Nat.le_of_ble_eq_true rfl) ⟨Nat.zero_le _, Nat.zero_le _⟩ (fun x14 => ?_)
    exact s_iret G dX8_first_17
  ·
    refine s_v (fun _ k => tk_iload_n G dX8_first_18 1 rfl (tk_istore_n (al' := [(2, .int a1), (0, .ref (e_ad E a0)), (1, .int a1)]) G dX8_first_19 (by decide) rfl (tk_iconst G dX8_first_20 cI_0 (tk_istore_n (al' := [(3, .int 0), (2, .int a1), (0, .ref (e_ad E a0)), (1, .int a1)]) G dX8_first_21 (by decide) rfl k)))) ?_
    have hX56 : ∀ (gz56 : tkH), tkS E X 5 0 0 (tkZi E X) 56 [(0, .ref (e_ad E a0))] [] gz56 ((f_X8_finding gz56 a0 (-100007)).bind fun x59 => some (x59.1, x59.2)) := by
      intro gz56
      refine s_v (fun _ k => tk_aload_n G dX8_first_56 0 rfl (tk_ldc G dX8_first_57 wK_X8_138 k)) ?_
      refine s_callVI (As := [.int (-100007)]) G dX8_first_59 wY_X8_finding wM_X8_60 wI_X8_finding wS_X8_finding (tk_rm hR (by decide) (by decide)) kX8 k0 (by decide) (c_X8_finding E gz56 a0 (-100007) k0) rfl rfl (Nat.le_of_ble_eq_true rfl) ⟨Nat.zero_le _, Nat.zero_le _⟩ (fun x59 => ?_)
      exact s_iret G dX8_first_62
    refine s_sub [2, 1, 0] (al' := [(0, .ref (e_ad E a0)), (2, .int a1), (3, .int 0)]) rfl ?_
    unfold f_X8_first_L22
    refine s_lp2 (al := fun y22_2 y22_3 => [(0, .ref (e_ad E a0)), (2, .int y22_2), (3, .int y22_3)]) (fun kk22 hL22 g22 y22_2 y22_3 => ?_) _ _ _ _
    refine s_v (fun _ k => tk_iload_n G dX8_first_22 2 rfl (tk_aload_n G dX8_first_23 0 rfl (tk_gr G kX8 dX8_first_24 wF_X8_10 k0 gR_8_0 (tk_gi G kX0 dX8_first_27 wF_X8_64 (kF_8_0 k0) gI_0_0 k)))) ?_
    refine s_icmp_ge (tgt := 56) G dX8_first_30 (by decide) (fun q30 => ?_) (fun q30 => ?_)
    ·
      refine s_sub [0] (al' := [(0, .ref (e_ad E a0))]) rfl ?_
      exact hX56 _
    ·
      refine s_v (fun _ k => tk_aload_n G dX8_first_33 0 rfl (tk_iload_n G dX8_first_34 1 rfl k)) ?_
      refine s_callVI (As := [.int y22_2]) G dX8_first_35 wY_X8_sourceOf wM_X8_218 wI_X8_sourceOf wS_X8_sourceOf (tk_rm hR (by decide) (by decide)) kX8 k0 (by decide) (c_X8_sourceOf E g22 a0 y22_2 k0) rfl rfl (Nat.le_of_ble_eq_true rfl) ⟨Nat.zero_le _, Nat.zero_le _⟩ (fun x35 => ?_)
      refine s_v (fun _ k => tk_istore (al' := [(4, .int x35.1), (0, .ref (e_ad E a0)), (2, .int y22_2), (3, .int y22_3)]) G dX8_first_38 (by decide) rfl (tk_iload G dX8_first_40 0 rfl k)) ?_
      refine s_if_ge (tgt := 47) G dX8_first_42 (by decide) (fun q42 => ?_) (fun q42 => ?_)
      ·
        refine s_v (fun _ k => tk_iload G dX8_first_47 0 rfl (tk_istore_n (al' := [(2, .int x35.1), (4, .int x35.1), (0, .ref (e_ad E a0)), (3, .int y22_3)]) G dX8_first_49 (by decide) rfl (tk_iinc (al' := [(3, .int (y22_3 + 1)), (2, .int x35.1), (4, .int x35.1), (0, .ref (e_ad E a0))]) G dX8_first_50 3 rfl (ci_1 _) (by decide) rfl (tk_goto (tgt := 22) G dX8_first_53 (by decide) k)))) ?_
        refine s_sub [3, 1, 0] (al' := [(0, .ref (e_ad E a0)), (2, .int x35.1), (3, .int (y22_3 + 1))]) rfl ?_
        exact hL22 _ _ _
      ·
        refine s_v (fun _ k => tk_iload_n G dX8_first_45 2 rfl k) ?_
        exact s_iret G dX8_first_46
theorem c_X8_first (E : tkE) (h : tkH) (a0 : Nat) (a1 : Int32) (k0 : kd a0 = 11) : ∀ x, f_X8_first h a0 a1 = some x → tkM E yX8_first cX8_first 5 (some .int) 6 tkF [.ref (e_ad E a0), .int a1] h (some (.int x.1)) x.2 := fun x hx => tkM_of (by decide) (Nat.le_of_ble_eq_true rfl) (fun _ hR G => w_X8_first hR G h a0 a1 k0 x hx)
