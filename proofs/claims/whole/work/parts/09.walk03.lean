set_option maxRecDepth 100000 in
set_option maxHeartbeats 4000000 in
theorem w_X8_told {E : tkE} {X : tkX} (hR : x_R X = tkR 2) (G : tkG E X cX8_told 3 RX8 (some .int)) (h : tkH) (a0 : Nat) (a1 : Int32) (a2 : Int32) (k0 : kd a0 = 11) : tkS E X 3 0 0 (tkZi E X) 0 [(0, .ref (e_ad E a0)), (1, .int a1), (2, .int a2)] [] h (f_X8_told h a0 a1 a2) := by
  unfold f_X8_told
  refine s_v (fun _ k => tk_aload_n G dX8_told_0 0 rfl (tk_gr G kX8 dX8_told_1 wF_X8_10 k0 gR_8_0 (tk_iload_n G dX8_told_4 1 rfl k))) ?_
  refine s_callVI (As := [.int a1]) G dX8_told_5 wY_X0_hasTale wM_X8_76 wI_X0_hasTale wS_X0_hasTale (tk_rm hR (by decide) (by decide)) kX0 (kF_8_0 k0) (by decide) (c_X0_hasTale E h (fld a0 0) a1 (kF_8_0 k0)) rfl rfl (Nat.le_of_ble_eq_true rfl) ⟨Nat.zero_le _, Nat.zero_le _⟩ (fun x5 => ?_)
  refine s_if_ne (tgt := 18) G dX8_told_8 (by decide) (fun q8 => ?_) (fun q8 => ?_)
  ·
    refine s_v (fun _ k => tk_aload_n G dX8_told_11 0 rfl (tk_ldc G dX8_told_12 wK_X8_59 k)) ?_
    refine s_callVI (As := [.int (-100001)]) G dX8_told_14 wY_X8_finding wM_X8_60 wI_X8_finding wS_X8_finding (tk_rm hR (by decide) (by decide)) kX8 k0 (by decide) (c_X8_finding E x5.2 a0 (-100001) k0) rfl rfl (Nat.le_of_ble_eq_true rfl) ⟨Nat.zero_le _, Nat.zero_le _⟩ (fun x14 => ?_)
    exact s_iret G dX8_told_17
  ·
    refine s_v (fun _ k => tk_iload_n G dX8_told_18 2 rfl k) ?_
    refine s_tab6 (t0 := 56) (t1 := 66) (t2 := 76) (t3 := 86) (t4 := 96) (t5 := 105) (td := 115) G dX8_told_19 (by decide) ?_ ?_ ?_ ?_ ?_ ?_ ?_
    ·
      refine s_v (fun _ k => tk_aload_n G dX8_told_56 0 rfl (tk_gr G kX8 dX8_told_57 wF_X8_10 k0 gR_8_0 (tk_gr G kX0 dX8_told_60 wF_X8_80 (kF_8_0 k0) gR_0_1 (tk_iload_n G dX8_told_63 1 rfl k)))) ?_
      refine s_iald G dX8_told_64 (kF_0_1 (kF_8_0 k0)) (fun v64 => ?_)
      exact s_iret G dX8_told_65
    ·
      refine s_v (fun _ k => tk_aload_n G dX8_told_66 0 rfl (tk_gr G kX8 dX8_told_67 wF_X8_10 k0 gR_8_0 (tk_gr G kX0 dX8_told_70 wF_X8_123 (kF_8_0 k0) gR_0_2 (tk_iload_n G dX8_told_73 1 rfl k)))) ?_
      refine s_iald G dX8_told_74 (kF_0_2 (kF_8_0 k0)) (fun v74 => ?_)
      exact s_iret G dX8_told_75
    ·
      refine s_v (fun _ k => tk_aload_n G dX8_told_76 0 rfl (tk_gr G kX8 dX8_told_77 wF_X8_10 k0 gR_8_0 (tk_gr G kX0 dX8_told_80 wF_X8_126 (kF_8_0 k0) gR_0_3 (tk_iload_n G dX8_told_83 1 rfl k)))) ?_
      refine s_iald G dX8_told_84 (kF_0_3 (kF_8_0 k0)) (fun v84 => ?_)
      exact s_iret G dX8_told_85
    ·
      refine s_v (fun _ k => tk_aload_n G dX8_told_86 0 rfl (tk_gr G kX8 dX8_told_87 wF_X8_10 k0 gR_8_0 (tk_gr G kX0 dX8_told_90 wF_X8_92 (kF_8_0 k0) gR_0_5 (tk_iload_n G dX8_told_93 1 rfl k)))) ?_
      refine s_iald G dX8_told_94 (kF_0_5 (kF_8_0 k0)) (fun v94 => ?_)
      exact s_iret G dX8_told_95
    ·
      refine s_v (fun _ k => tk_aload_n G dX8_told_96 0 rfl (tk_gr G kX8 dX8_told_97 wF_X8_10 k0 gR_8_0 (tk_iload_n G dX8_told_100 1 rfl k))) ?_
      refine s_callVI (As := [.int a1]) G dX8_told_101 wY_X0_laidLength wM_X8_129 wI_X0_laidLength wS_X0_laidLength (tk_rm hR (by decide) (by decide)) kX0 (kF_8_0 k0) (by decide) (c_X0_laidLength E x5.2 (fld a0 0) a1 (kF_8_0 k0)) rfl rfl (Nat.le_of_ble_eq_true rfl) ⟨Nat.zero_le _, Nat.zero_le _⟩ (fun x101 => ?_)
      exact s_iret G dX8_told_104
    ·
      refine s_v (fun _ k => tk_aload_n G dX8_told_105 0 rfl (tk_gr G kX8 dX8_told_106 wF_X8_10 k0 gR_8_0 (tk_gr G kX0 dX8_told_109 wF_X8_132 (kF_8_0 k0) gR_0_4 (tk_iload_n G dX8_told_112 1 rfl k)))) ?_
      refine s_iald G dX8_told_113 (kF_0_4 (kF_8_0 k0)) (fun v113 => ?_)
      exact s_iret G dX8_told_114
    ·
      refine s_v (fun _ k => tk_aload_n G dX8_told_115 0 rfl (tk_ldc G dX8_told_116 wK_X8_59 k)) ?_
      refine s_callVI (As := [.int (-100001)]) G dX8_told_118 wY_X8_finding wM_X8_60 wI_X8_finding wS_X8_finding (tk_rm hR (by decide) (by decide)) kX8 k0 (by decide) (c_X8_finding E x5.2 a0 (-100001) k0) rfl rfl (Nat.le_of_ble_eq_true rfl) ⟨Nat.zero_le _, Nat.zero_le _⟩ (fun x118 => ?_)
      exact s_iret G dX8_told_121
theorem c_X8_told (E : tkE) (h : tkH) (a0 : Nat) (a1 : Int32) (a2 : Int32) (k0 : kd a0 = 11) : ∀ x, f_X8_told h a0 a1 a2 = some x → tkM E yX8_told cX8_told 3 (some .int) 2 tkF [.ref (e_ad E a0), .int a1, .int a2] h (some (.int x.1)) x.2 := fun x hx => tkM_of (by decide) (Nat.le_of_ble_eq_true rfl) (fun _ hR G => w_X8_told hR G h a0 a1 a2 k0 x hx)
set_option maxRecDepth 100000 in
set_option maxHeartbeats 4000000 in
theorem w_X9_as {E : tkE} {X : tkX} (hR : x_R X = tkR 2) (G : tkG E X cX9_as 4 RX9 (some .int)) (h : tkH) (a0 : Nat) (a1 : Int32) (a2 : Int32) (k0 : kd a0 = 12) : tkS E X 4 0 0 (tkZi E X) 0 [(0, .ref (e_ad E a0)), (1, .int a1), (2, .int a2)] [] h (f_X9_as h a0 a1 a2) := by
  unfold f_X9_as
  refine s_v (fun _ k => tk_aload_n G dX9_as_0 0 rfl (tk_iload_n G dX9_as_1 1 rfl k)) ?_
  refine s_callVI (As := [.int a1]) G dX9_as_2 wY_X9_isTale wM_X9_71 wI_X9_isTale wS_X9_isTale (tk_rm hR (by decide) (by decide)) kX9 k0 (by decide) (c_X9_isTale E h a0 a1 k0) rfl rfl (Nat.le_of_ble_eq_true rfl) ⟨Nat.zero_le _, Nat.zero_le _⟩ (fun x2 => ?_)
  have hJ17 : ∀ (g17 : tkH), tkS E X 4 0 0 (tkZi E X) 17 [(0, .ref (e_ad E a0))] [] g17 (f_X9_as_J17 a0 g17) := by
    intro g17
    unfold f_X9_as_J17
    refine s_v (fun _ k => tk_aload_n G dX9_as_17 0 rfl (tk_ldc G dX9_as_18 wK_X9_66 k)) ?_
    refine s_callVI (As := [.int (-100001)]) G dX9_as_20 wY_X9_finding wM_X9_58 wI_X9_finding wS_X9_finding (tk_rm hR (by decide) (by decide)) kX9 k0 (by decide) (c_X9_finding E g17 a0 (-100001) k0) rfl rfl (Nat.le_of_ble_eq_true rfl) ⟨Nat.zero_le _, Nat.zero_le _⟩ (fun x20 => ?_)
    exact s_iret G dX9_as_23
  refine s_if_eq (tgt := 17) G dX9_as_5 (by decide) (fun q5 => ?_) (fun q5 => ?_)
  ·
    refine s_sub [0] (al' := [(0, .ref (e_ad E a0))]) rfl ?_
    exact hJ17 _
  ·
    refine s_v (fun _ k => tk_iload_n G dX9_as_8 2 rfl (tk_iconst G dX9_as_9 cI_0 (tk_iconst G dX9_as_10 cI_3 k))) ?_
    refine s_callSI (As := [.int a2, .int 0, .int 3]) G dX9_as_11 wY_X9_within wM_X9_50 wI_X9_within (tk_rm hR (by decide) (by decide)) (c_X9_within E x2.2 a2 0 3) rfl rfl (Nat.le_of_ble_eq_true rfl) ⟨Nat.zero_le _, Nat.zero_le _⟩ (fun x11 => ?_)
    refine s_if_ne (tgt := 24) G dX9_as_14 (by decide) (fun q14 => ?_) (fun q14 => ?_)
    ·
      refine s_sub [0] (al' := [(0, .ref (e_ad E a0))]) rfl ?_
      exact hJ17 _
    ·
      refine s_v (fun _ k => tk_aload_n G dX9_as_24 0 rfl (tk_gr G kX9 dX9_as_25 wF_X9_9 k0 gR_9_0 (tk_bipush G dX9_as_28 cB_40 (tk_iload_n G dX9_as_30 1 rfl (tk_iadd G dX9_as_31 k))))) ?_
      refine s_iald G dX9_as_32 (kF_9_0 k0) (fun v32 => ?_)
      refine s_v (fun _ k => tk_istore_n (al' := [(3, .int v32), (0, .ref (e_ad E a0)), (1, .int a1), (2, .int a2)]) G dX9_as_33 (by decide) rfl (tk_iload_n G dX9_as_34 3 rfl k)) ?_
      refine s_if_eq (tgt := 53) G dX9_as_35 (by decide) (fun q35 => ?_) (fun q35 => ?_)
      ·
        refine s_v (fun _ k => tk_iload_n G dX9_as_53 2 rfl (tk_goto (tgt := 63) G dX9_as_54 (by decide) k)) ?_
        exact s_iret G dX9_as_63
      ·
        refine s_v (fun _ k => tk_iload_n G dX9_as_38 0 rfl (tk_iload_n G dX9_as_39 3 rfl k)) ?_
        refine s_icmp_eq (tgt := 53) G dX9_as_40 (by decide) (fun q40 => ?_) (fun q40 => ?_)
        ·
          refine s_v (fun _ k => tk_iload_n G dX9_as_53 2 rfl (tk_goto (tgt := 63) G dX9_as_54 (by decide) k)) ?_
          exact s_iret G dX9_as_63
        ·
          refine s_v (fun _ k => tk_iload_n G dX9_as_43 3 rfl (tk_iconst G dX9_as_44 cI_1 k)) ?_
          have hJ57 : ∀ (g57 : tkH), tkS E X 4 0 0 (tkZi E X) 57 [(0, .ref (e_ad E a0))] [] g57 (f_X9_as_J57 a0 g57) := by
            intro g57
            unfold f_X9_as_J57
            refine s_v (fun _ k => tk_aload_n G dX9_as_57 0 rfl (tk_ldc G dX9_as_58 wK_X9_74 k)) ?_
            refine s_callVI (As := [.int (-100004)]) G dX9_as_60 wY_X9_finding wM_X9_58 wI_X9_finding wS_X9_finding (tk_rm hR (by decide) (by decide)) kX9 k0 (by decide) (c_X9_finding E g57 a0 (-100004) k0) rfl rfl (Nat.le_of_ble_eq_true rfl) ⟨Nat.zero_le _, Nat.zero_le _⟩ (fun x60 => ?_)
            exact s_iret G dX9_as_63
          refine s_icmp_ne (tgt := 57) G dX9_as_45 (by decide) (fun q45 => ?_) (fun q45 => ?_)
          ·
            refine s_v (fun _ k => tk_iload_n G dX9_as_48 0 rfl (tk_iconst G dX9_as_49 cI_3 k)) ?_
            refine s_icmp_ne (tgt := 57) G dX9_as_50 (by decide) (fun q50 => ?_) (fun q50 => ?_)
            ·
              refine s_v (fun _ k => tk_iload_n G dX9_as_53 2 rfl (tk_goto (tgt := 63) G dX9_as_54 (by decide) k)) ?_
              exact s_iret G dX9_as_63
            ·
              refine s_sub [1] (al' := [(0, .ref (e_ad E a0))]) rfl ?_
              exact hJ57 _
          ·
            refine s_sub [1] (al' := [(0, .ref (e_ad E a0))]) rfl ?_
            exact hJ57 _
theorem c_X9_as (E : tkE) (h : tkH) (a0 : Nat) (a1 : Int32) (a2 : Int32) (k0 : kd a0 = 12) : ∀ x, f_X9_as h a0 a1 a2 = some x → tkM E yX9_as cX9_as 4 (some .int) 2 tkF [.ref (e_ad E a0), .int a1, .int a2] h (some (.int x.1)) x.2 := fun x hx => tkM_of (by decide) (Nat.le_of_ble_eq_true rfl) (fun _ hR G => w_X9_as hR G h a0 a1 a2 k0 x hx)
set_option maxRecDepth 100000 in
set_option maxHeartbeats 4000000 in
theorem w_X9_copy {E : tkE} {X : tkX} (hR : x_R X = tkR 2) (G : tkG E X cX9_copy 7 RX9 (some .int)) (h : tkH) (a0 : Nat) (a1 : Int32) (a2 : Int32) (a3 : Int32) (a4 : Int32) (a5 : Int32) (k0 : kd a0 = 12) : tkS E X 7 0 0 (tkZi E X) 0 [(0, .ref (e_ad E a0)), (1, .int a1), (2, .int a2), (3, .int a3), (4, .int a4), (5, .int a5)] [] h (f_X9_copy h a0 a1 a2 a3 a4 a5) := by
  unfold f_X9_copy
  refine s_v (fun _ k => tk_iload_n G dX9_copy_0 1 rfl k) ?_
  refine s_callSI (As := [.int a1]) G dX9_copy_1 wY_X9_isSheet wM_X9_232 wI_X9_isSheet (tk_rm hR (by decide) (by decide)) (c_X9_isSheet E h a1) rfl rfl (Nat.le_of_ble_eq_true rfl) ⟨Nat.zero_le _, Nat.zero_le _⟩ (fun x1 => ?_)
  have hJ14 : ∀ (g14 : tkH), tkS E X 7 0 0 (tkZi E X) 14 [(0, .ref (e_ad E a0))] [] g14 (f_X9_copy_J14 a0 g14) := by
    intro g14
    unfold f_X9_copy_J14
    refine s_v (fun _ k => tk_aload_n G dX9_copy_14 0 rfl (tk_ldc G dX9_copy_15 wK_X9_66 k)) ?_
    refine s_callVI (As := [.int (-100001)]) G dX9_copy_17 wY_X9_finding wM_X9_58 wI_X9_finding wS_X9_finding (tk_rm hR (by decide) (by decide)) kX9 k0 (by decide) (c_X9_finding E g14 a0 (-100001) k0) rfl rfl (Nat.le_of_ble_eq_true rfl) ⟨Nat.zero_le _, Nat.zero_le _⟩ (fun x17 => ?_)
    exact s_iret G dX9_copy_20
  refine s_if_eq (tgt := 14) G dX9_copy_4 (by decide) (fun q4 => ?_) (fun q4 => ?_)
  ·
    refine s_sub [0] (al' := [(0, .ref (e_ad E a0))]) rfl ?_
    exact hJ14 _
  ·
    refine s_v (fun _ k => tk_iload_n G dX9_copy_7 3 rfl k) ?_
    refine s_callSI (As := [.int a3]) G dX9_copy_8 wY_X9_isSheet wM_X9_232 wI_X9_isSheet (tk_rm hR (by decide) (by decide)) (c_X9_isSheet E x1.2 a3) rfl rfl (Nat.le_of_ble_eq_true rfl) ⟨Nat.zero_le _, Nat.zero_le _⟩ (fun x8 => ?_)
    refine s_if_ne (tgt := 21) G dX9_copy_11 (by decide) (fun q11 => ?_) (fun q11 => ?_)
    ·
      refine s_sub [0] (al' := [(0, .ref (e_ad E a0))]) rfl ?_
      exact hJ14 _
    ·
      refine s_v (fun _ k => tk_aload_n G dX9_copy_21 0 rfl (tk_gr G kX9 dX9_copy_22 wF_X9_16 k0 gR_9_4 (tk_iload_n G dX9_copy_25 1 rfl k))) ?_
      refine s_iald G dX9_copy_26 (kF_9_4 k0) (fun v26 => ?_)
      have hJ39 : ∀ (g39 : tkH), tkS E X 7 0 0 (tkZi E X) 39 [(0, .ref (e_ad E a0))] [] g39 (f_X9_copy_J39 a0 g39) := by
        intro g39
        unfold f_X9_copy_J39
        refine s_v (fun _ k => tk_aload_n G dX9_copy_39 0 rfl (tk_ldc G dX9_copy_40 wK_X9_235 k)) ?_
        refine s_callVI (As := [.int (-100002)]) G dX9_copy_42 wY_X9_finding wM_X9_58 wI_X9_finding wS_X9_finding (tk_rm hR (by decide) (by decide)) kX9 k0 (by decide) (c_X9_finding E g39 a0 (-100002) k0) rfl rfl (Nat.le_of_ble_eq_true rfl) ⟨Nat.zero_le _, Nat.zero_le _⟩ (fun x42 => ?_)
        exact s_iret G dX9_copy_45
      refine s_if_eq (tgt := 39) G dX9_copy_27 (by decide) (fun q27 => ?_) (fun q27 => ?_)
      ·
        refine s_sub [0] (al' := [(0, .ref (e_ad E a0))]) rfl ?_
        exact hJ39 _
      ·
        refine s_v (fun _ k => tk_aload_n G dX9_copy_30 0 rfl (tk_gr G kX9 dX9_copy_31 wF_X9_16 k0 gR_9_4 (tk_iload_n G dX9_copy_34 3 rfl k))) ?_
        refine s_iald G dX9_copy_35 (kF_9_4 k0) (fun v35 => ?_)
        refine s_if_ne (tgt := 46) G dX9_copy_36 (by decide) (fun q36 => ?_) (fun q36 => ?_)
        ·
          refine s_sub [0] (al' := [(0, .ref (e_ad E a0))]) rfl ?_
          exact hJ39 _
        ·
          refine s_v (fun _ k => tk_aload_n G dX9_copy_46 0 rfl (tk_gr G kX9 dX9_copy_47 wF_X9_16 k0 gR_9_4 (tk_iload_n G dX9_copy_50 1 rfl k))) ?_
          refine s_iald G dX9_copy_51 (kF_9_4 k0) (fun v51 => ?_)
          refine s_v (fun _ k => tk_aload_n G dX9_copy_52 0 rfl (tk_gr G kX9 dX9_copy_53 wF_X9_16 k0 gR_9_4 (tk_iload_n G dX9_copy_56 3 rfl k))) ?_
          refine s_iald G dX9_copy_57 (kF_9_4 k0) (fun v57 => ?_)
          refine s_icmp_eq (tgt := 68) G dX9_copy_58 (by decide) (fun q58 => ?_) (fun q58 => ?_)
          ·
            refine s_v (fun _ k => tk_iload_n G dX9_copy_68 2 rfl k) ?_
            have hJ117 : ∀ (g117 : tkH), tkS E X 7 0 0 (tkZi E X) 117 [(0, .ref (e_ad E a0))] [] g117 (f_X9_copy_J117 a0 g117) := by
              intro g117
              unfold f_X9_copy_J117
              refine s_v (fun _ k => tk_aload_n G dX9_copy_117 0 rfl (tk_ldc G dX9_copy_118 wK_X9_66 k)) ?_
              refine s_callVI (As := [.int (-100001)]) G dX9_copy_120 wY_X9_finding wM_X9_58 wI_X9_finding wS_X9_finding (tk_rm hR (by decide) (by decide)) kX9 k0 (by decide) (c_X9_finding E g117 a0 (-100001) k0) rfl rfl (Nat.le_of_ble_eq_true rfl) ⟨Nat.zero_le _, Nat.zero_le _⟩ (fun x120 => ?_)
              exact s_iret G dX9_copy_123
            refine s_if_lt (tgt := 117) G dX9_copy_69 (by decide) (fun q69 => ?_) (fun q69 => ?_)
            ·
              refine s_sub [0] (al' := [(0, .ref (e_ad E a0))]) rfl ?_
              exact hJ117 _
            ·
              refine s_v (fun _ k => tk_iload G dX9_copy_72 4 rfl k) ?_
              refine s_if_lt (tgt := 117) G dX9_copy_74 (by decide) (fun q74 => ?_) (fun q74 => ?_)
              ·
                refine s_sub [0] (al' := [(0, .ref (e_ad E a0))]) rfl ?_
                exact hJ117 _
              ·
                refine s_v (fun _ k => tk_iload G dX9_copy_77 5 rfl k) ?_
                refine s_if_lt (tgt := 117) G dX9_copy_79 (by decide) (fun q79 => ?_) (fun q79 => ?_)
                ·
                  refine s_sub [0] (al' := [(0, .ref (e_ad E a0))]) rfl ?_
                  exact hJ117 _
                ·
                  refine s_v (fun _ k => tk_iload_n G dX9_copy_82 2 rfl (tk_i2l G dX9_copy_83 (tk_iload G dX9_copy_84 5 rfl (tk_i2l G dX9_copy_86 (tk_ladd G dX9_copy_87 (tk_aload_n G dX9_copy_88 0 rfl (tk_gr G kX9 dX9_copy_89 wF_X9_19 k0 gR_9_5 (tk_iload_n G dX9_copy_92 1 rfl k)))))))) ?_
                  refine s_iald G dX9_copy_93 (kF_9_5 k0) (fun v93 => ?_)
                  refine s_v (fun _ k => tk_i2l G dX9_copy_94 (tk_lcmp G dX9_copy_95 k)) ?_
                  refine s_if_gt (tgt := 117) G dX9_copy_96 (by decide) (fun q96 => ?_) (fun q96 => ?_)
                  ·
                    refine s_sub [0] (al' := [(0, .ref (e_ad E a0))]) rfl ?_
                    exact hJ117 _
                  ·
                    refine s_v (fun _ k => tk_iload G dX9_copy_99 4 rfl (tk_i2l G dX9_copy_101 (tk_iload G dX9_copy_102 5 rfl (tk_i2l G dX9_copy_104 (tk_ladd G dX9_copy_105 (tk_aload_n G dX9_copy_106 0 rfl (tk_gr G kX9 dX9_copy_107 wF_X9_19 k0 gR_9_5 (tk_iload_n G dX9_copy_110 3 rfl k)))))))) ?_
                    refine s_iald G dX9_copy_111 (kF_9_5 k0) (fun v111 => ?_)
                    refine s_v (fun _ k => tk_i2l G dX9_copy_112 (tk_lcmp G dX9_copy_113 k)) ?_
                    refine s_if_le (tgt := 124) G dX9_copy_114 (by decide) (fun q114 => ?_) (fun q114 => ?_)
                    ·
                      refine s_v (fun _ k => tk_iconst G dX9_copy_124 cI_0 (tk_istore (al' := [(6, .int 0), (0, .ref (e_ad E a0)), (1, .int a1), (2, .int a2), (3, .int a3), (4, .int a4), (5, .int a5)]) G dX9_copy_125 (by decide) rfl k)) ?_
                      have hX161 : ∀ (gz161 : tkH), tkS E X 7 0 0 (tkZi E X) 161 [(0, .ref (e_ad E a0)), (3, .int a3), (4, .int a4), (5, .int a5)] [] gz161 (f_X9_copy_L164 a5 a0 a3 a4 FU gz161 0) := by
                        intro gz161
                        refine s_v (fun _ k => tk_iconst G dX9_copy_161 cI_0 (tk_istore (al' := [(6, .int 0), (0, .ref (e_ad E a0)), (3, .int a3), (4, .int a4), (5, .int a5)]) G dX9_copy_162 (by decide) rfl k)) ?_
                        refine s_sub [1, 2, 3, 4, 0] (al' := [(0, .ref (e_ad E a0)), (3, .int a3), (4, .int a4), (5, .int a5), (6, .int 0)]) rfl ?_
                        unfold f_X9_copy_L164
                        refine s_lp1 (al := fun y164_6 => [(0, .ref (e_ad E a0)), (3, .int a3), (4, .int a4), (5, .int a5), (6, .int y164_6)]) (fun kk164 hL164 g164 y164_6 => ?_) _ _ _
                        refine s_v (fun _ k => tk_iload G dX9_copy_164 4 rfl (tk_iload G dX9_copy_166 3 rfl k)) ?_
                        refine s_icmp_ge (tgt := 199) G dX9_copy_168 (by decide) (fun q168 => ?_) (fun q168 => ?_)
                        ·
                          refine s_v (fun _ k => tk_iload G dX9_copy_199 3 rfl k) ?_
                          exact s_iret G dX9_copy_201
                        ·
                          refine s_v (fun _ k => tk_aload_n G dX9_copy_171 0 rfl (tk_gr G kX9 dX9_copy_172 wF_X9_22 k0 gR_9_6 (tk_bipush G dX9_copy_175 cB_30 (tk_iload_n G dX9_copy_177 1 rfl (tk_imul G dX9_copy_178 (tk_iload G dX9_copy_179 2 rfl (tk_iadd G dX9_copy_181 (tk_iload G dX9_copy_182 4 rfl (tk_iadd G dX9_copy_184 (tk_aload_n G dX9_copy_185 0 rfl (tk_gr G kX9 dX9_copy_186 wF_X9_43 k0 gR_9_28 (tk_iload G dX9_copy_189 4 rfl k)))))))))))) ?_
                          refine s_iald G dX9_copy_191 (kF_9_28 k0) (fun v191 => ?_)
                          refine s_iast G dX9_copy_192 (kF_9_6 k0) (fun h192 => ?_)
                          refine s_v (fun _ k => tk_iinc (al' := [(6, .int (y164_6 + 1)), (0, .ref (e_ad E a0)), (3, .int a3), (4, .int a4), (5, .int a5)]) G dX9_copy_193 4 rfl (ci_1 _) (by decide) rfl (tk_goto (tgt := 164) G dX9_copy_196 (by decide) k)) ?_
                          refine s_sub [1, 2, 3, 4, 0] (al' := [(0, .ref (e_ad E a0)), (3, .int a3), (4, .int a4), (5, .int a5), (6, .int (y164_6 + 1))]) rfl ?_
                          exact hL164 _ _
                      refine s_sub [1, 2, 3, 4, 5, 6, 0] (al' := [(0, .ref (e_ad E a0)), (1, .int a1), (2, .int a2), (3, .int a3), (4, .int a4), (5, .int a5), (6, .int 0)]) rfl ?_
                      unfold f_X9_copy_L127
                      refine s_lp1 (al := fun y127_6 => [(0, .ref (e_ad E a0)), (1, .int a1), (2, .int a2), (3, .int a3), (4, .int a4), (5, .int a5), (6, .int y127_6)]) (fun kk127 hL127 g127 y127_6 => ?_) _ _ _
                      refine s_v (fun _ k => tk_iload G dX9_copy_127 6 rfl (tk_iload G dX9_copy_129 5 rfl k)) ?_
                      refine s_icmp_ge (tgt := 161) G dX9_copy_131 (by decide) (fun q131 => ?_) (fun q131 => ?_)
                      ·
                        refine s_sub [0, 3, 4, 5] (al' := [(0, .ref (e_ad E a0)), (3, .int a3), (4, .int a4), (5, .int a5)]) rfl ?_
                        exact hX161 _
                      ·
                        refine s_v (fun _ k => tk_aload_n G dX9_copy_134 0 rfl (tk_gr G kX9 dX9_copy_135 wF_X9_43 k0 gR_9_28 (tk_iload G dX9_copy_138 6 rfl (tk_aload_n G dX9_copy_140 0 rfl (tk_gr G kX9 dX9_copy_141 wF_X9_22 k0 gR_9_6 (tk_bipush G dX9_copy_144 cB_30 (tk_iload_n G dX9_copy_146 1 rfl (tk_imul G dX9_copy_147 (tk_iload_n G dX9_copy_148 2 rfl (tk_iadd G dX9_copy_149 (tk_iload G dX9_copy_150 6 rfl (tk_iadd G dX9_copy_152 k)))))))))))) ?_
                        refine s_iald G dX9_copy_153 (kF_9_6 k0) (fun v153 => ?_)
                        refine s_iast G dX9_copy_154 (kF_9_28 k0) (fun h154 => ?_)
                        refine s_v (fun _ k => tk_iinc (al' := [(6, .int (y127_6 + 1)), (0, .ref (e_ad E a0)), (1, .int a1), (2, .int a2), (3, .int a3), (4, .int a4), (5, .int a5)]) G dX9_copy_155 6 rfl (ci_1 _) (by decide) rfl (tk_goto (tgt := 127) G dX9_copy_158 (by decide) k)) ?_
                        refine s_sub [1, 2, 3, 4, 5, 6, 0] (al' := [(0, .ref (e_ad E a0)), (1, .int a1), (2, .int a2), (3, .int a3), (4, .int a4), (5, .int a5), (6, .int (y127_6 + 1))]) rfl ?_
                        exact hL127 _ _
                    ·
                      refine s_sub [0] (al' := [(0, .ref (e_ad E a0))]) rfl ?_
                      exact hJ117 _
          ·
            refine s_v (fun _ k => tk_aload_n G dX9_copy_61 0 rfl (tk_ldc G dX9_copy_62 wK_X9_74 k)) ?_
            refine s_callVI (As := [.int (-100004)]) G dX9_copy_64 wY_X9_finding wM_X9_58 wI_X9_finding wS_X9_finding (tk_rm hR (by decide) (by decide)) kX9 k0 (by decide) (c_X9_finding E x8.2 a0 (-100004) k0) rfl rfl (Nat.le_of_ble_eq_true rfl) ⟨Nat.zero_le _, Nat.zero_le _⟩ (fun x64 => ?_)
            exact s_iret G dX9_copy_67
theorem c_X9_copy (E : tkE) (h : tkH) (a0 : Nat) (a1 : Int32) (a2 : Int32) (a3 : Int32) (a4 : Int32) (a5 : Int32) (k0 : kd a0 = 12) : ∀ x, f_X9_copy h a0 a1 a2 a3 a4 a5 = some x → tkM E yX9_copy cX9_copy 7 (some .int) 2 tkF [.ref (e_ad E a0), .int a1, .int a2, .int a3, .int a4, .int a5] h (some (.int x.1)) x.2 := fun x hx => tkM_of (by decide) (Nat.le_of_ble_eq_true rfl) (fun _ hR G => w_X9_copy hR G h a0 a1 a2 a3 a4 a5 k0 x hx)
set_option maxRecDepth 100000 in
set_option maxHeartbeats 4000000 in
theorem w_X9_count {E : tkE} {X : tkX} (hR : x_R X = tkR 2) (G : tkG E X cX9_count 4 RX9 (some .int)) (h : tkH) (a0 : Nat) (a1 : Int32) (a2 : Int32) (a3 : Int32) (k0 : kd a0 = 12) : tkS E X 4 0 0 (tkZi E X) 0 [(0, .ref (e_ad E a0)), (1, .int a1), (2, .int a2), (3, .int a3)] [] h (f_X9_count h a0 a1 a2 a3) := by
  unfold f_X9_count
  refine s_v (fun _ k => tk_iload_n G dX9_count_0 1 rfl k) ?_
  refine s_callSI (As := [.int a1]) G dX9_count_1 wY_X9_isMotif wM_X9_75 wI_X9_isMotif (tk_rm hR (by decide) (by decide)) (c_X9_isMotif E h a1) rfl rfl (Nat.le_of_ble_eq_true rfl) ⟨Nat.zero_le _, Nat.zero_le _⟩ (fun x1 => ?_)
  have hJ29 : ∀ (g29 : tkH), tkS E X 4 0 0 (tkZi E X) 29 [(0, .ref (e_ad E a0))] [] g29 (f_X9_count_J29 a0 g29) := by
    intro g29
    unfold f_X9_count_J29
    refine s_v (fun _ k => tk_aload_n G dX9_count_29 0 rfl (tk_ldc G dX9_count_30 wK_X9_66 k)) ?_
    refine s_callVI (As := [.int (-100001)]) G dX9_count_32 wY_X9_finding wM_X9_58 wI_X9_finding wS_X9_finding (tk_rm hR (by decide) (by decide)) kX9 k0 (by decide) (c_X9_finding E g29 a0 (-100001) k0) rfl rfl (Nat.le_of_ble_eq_true rfl) ⟨Nat.zero_le _, Nat.zero_le _⟩ (fun x32 => ?_)
    exact s_iret G dX9_count_35
  refine s_if_eq (tgt := 29) G dX9_count_4 (by decide) (fun q4 => ?_) (fun q4 => ?_)
  ·
    refine s_sub [0] (al' := [(0, .ref (e_ad E a0))]) rfl ?_
    exact hJ29 _
  ·
    refine s_v (fun _ k => tk_iload_n G dX9_count_7 2 rfl (tk_iconst G dX9_count_8 cI_m1 k)) ?_
    have hJ19 : ∀ (g19 : tkH), tkS E X 4 0 0 (tkZi E X) 19 [(0, .ref (e_ad E a0)), (1, .int a1), (2, .int a2), (3, .int a3)] [] g19 (f_X9_count_J19 a0 a1 a2 a3 g19) := by
      intro g19
      unfold f_X9_count_J19
      refine s_v (fun _ k => tk_aload_n G dX9_count_19 0 rfl (tk_iload_n G dX9_count_20 1 rfl (tk_iload_n G dX9_count_21 2 rfl (tk_iload_n G dX9_count_22 3 rfl k)))) ?_
      refine s_callVI (As := [.int a1, .int a2, .int a3]) G dX9_count_23 wY_X9_counts wM_X9_228 wI_X9_counts wS_X9_counts (tk_rm hR (by decide) (by decide)) kX9 k0 (by decide) (c_X9_counts E g19 a0 a1 a2 a3 k0) rfl rfl (Nat.le_of_ble_eq_true rfl) ⟨Nat.zero_le _, Nat.zero_le _⟩ (fun x23 => ?_)
      refine s_v (fun _ k => tk_goto (tgt := 35) G dX9_count_26 (by decide) k) ?_
      exact s_iret G dX9_count_35
    refine s_icmp_eq (tgt := 19) G dX9_count_9 (by decide) (fun q9 => ?_) (fun q9 => ?_)
    ·
      exact hJ19 _
    ·
      refine s_v (fun _ k => tk_iload_n G dX9_count_12 2 rfl k) ?_
      refine s_callSI (As := [.int a2]) G dX9_count_13 wY_X9_isPlace wM_X9_62 wI_X9_isPlace (tk_rm hR (by decide) (by decide)) (c_X9_isPlace E x1.2 a2) rfl rfl (Nat.le_of_ble_eq_true rfl) ⟨Nat.zero_le _, Nat.zero_le _⟩ (fun x13 => ?_)
      refine s_if_eq (tgt := 29) G dX9_count_16 (by decide) (fun q16 => ?_) (fun q16 => ?_)
      ·
        refine s_sub [0] (al' := [(0, .ref (e_ad E a0))]) rfl ?_
        exact hJ29 _
      ·
        exact hJ19 _
theorem c_X9_count (E : tkE) (h : tkH) (a0 : Nat) (a1 : Int32) (a2 : Int32) (a3 : Int32) (k0 : kd a0 = 12) : ∀ x, f_X9_count h a0 a1 a2 a3 = some x → tkM E yX9_count cX9_count 4 (some .int) 2 tkF [.ref (e_ad E a0), .int a1, .int a2, .int a3] h (some (.int x.1)) x.2 := fun x hx => tkM_of (by decide) (Nat.le_of_ble_eq_true rfl) (fun _ hR G => w_X9_count hR G h a0 a1 a2 a3 k0 x hx)
set_option maxRecDepth 100000 in
set_option maxHeartbeats 4000000 in
theorem w_X9_home {E : tkE} {X : tkX} (hR : x_R X = tkR 2) (G : tkG E X cX9_home 4 RX9 (some .int)) (h : tkH) (a0 : Nat) (a1 : Int32) (k0 : kd a0 = 12) : tkS E X 4 0 0 (tkZi E X) 0 [(0, .ref (e_ad E a0)), (1, .int a1)] [] h (f_X9_home h a0 a1) := by
  unfold f_X9_home
  refine s_v (fun _ k => tk_iload_n G dX9_home_0 1 rfl k) ?_
  refine s_callSI (As := [.int a1]) G dX9_home_1 wY_X9_isMotif wM_X9_75 wI_X9_isMotif (tk_rm hR (by decide) (by decide)) (c_X9_isMotif E h a1) rfl rfl (Nat.le_of_ble_eq_true rfl) ⟨Nat.zero_le _, Nat.zero_le _⟩ (fun x1 => ?_)
  refine s_if_ne (tgt := 14) G dX9_home_4 (by decide) (fun q4 => ?_) (fun q4 => ?_)
  ·
    refine s_v (fun _ k => tk_aload_n G dX9_home_7 0 rfl (tk_ldc G dX9_home_8 wK_X9_66 k)) ?_
    refine s_callVI (As := [.int (-100001)]) G dX9_home_10 wY_X9_finding wM_X9_58 wI_X9_finding wS_X9_finding (tk_rm hR (by decide) (by decide)) kX9 k0 (by decide) (c_X9_finding E x1.2 a0 (-100001) k0) rfl rfl (Nat.le_of_ble_eq_true rfl) ⟨Nat.zero_le _, Nat.zero_le _⟩ (fun x10 => ?_)
    exact s_iret G dX9_home_13
  ·
    refine s_v (fun _ k => tk_iconst G dX9_home_14 cI_0 (tk_istore_n (al' := [(2, .int 0), (0, .ref (e_ad E a0)), (1, .int a1)]) G dX9_home_15 (by decide) rfl (tk_iconst G dX9_home_16 cI_1 (tk_istore_n (al' := [(3, .int 1), (2, .int 0), (0, .ref (e_ad E a0)), (1, .int a1)]) G dX9_home_17 (by decide) rfl k)))) ?_
    have hX53 : ∀ (gz53 : tkH) (z53_2 : Int32), tkS E X 4 0 0 (tkZi E X) 53 [(0, .ref (e_ad E a0)), (1, .int a1), (2, .int z53_2)] [] gz53 ((f_X9_counts gz53 a0 a1 z53_2 0).bind fun x57 => if x57.1 = 0 then ((f_X9_finding x57.2 a0 (-100006)).bind fun x66 => some (x66.1, x66.2)) else (some (z53_2, x57.2))) := by
      intro gz53 z53_2
      refine s_v (fun _ k => tk_aload_n G dX9_home_53 0 rfl (tk_iload_n G dX9_home_54 1 rfl (tk_iload_n G dX9_home_55 2 rfl (tk_iconst G dX9_home_56 cI_0 k)))) ?_
      refine s_callVI (As := [.int a1, .int z53_2, .int 0]) G dX9_home_57 wY_X9_counts wM_X9_228 wI_X9_counts wS_X9_counts (tk_rm hR (by decide) (by decide)) kX9 k0 (by decide) (c_X9_counts E gz53 a0 a1 z53_2 0 k0) rfl rfl (Nat.le_of_ble_eq_true rfl) ⟨Nat.zero_le _, Nat.zero_le _⟩ (fun x57 => ?_)
      refine s_if_ne (tgt := 72) G dX9_home_60 (by decide) (fun q60 => ?_) (fun q60 => ?_)
      ·
        refine s_v (fun _ k => tk_aload_n G dX9_home_63 0 rfl (tk_ldc G dX9_home_64 wK_X9_57 k)) ?_
        refine s_callVI (As := [.int (-100006)]) G dX9_home_66 wY_X9_finding wM_X9_58 wI_X9_finding wS_X9_finding (tk_rm hR (by decide) (by decide)) kX9 k0 (by decide) (c_X9_finding E x57.2 a0 (-100006) k0) rfl rfl (Nat.le_of_ble_eq_true rfl) ⟨Nat.zero_le _, Nat.zero_le _⟩ (fun x66 => ?_)
        refine s_v (fun _ k => tk_goto (tgt := 73) G dX9_home_69 (by decide) k) ?_
        exact s_iret G dX9_home_73
      ·
        refine s_v (fun _ k => tk_iload_n G dX9_home_72 2 rfl k) ?_
        exact s_iret G dX9_home_73
    refine s_sub [2, 3, 1, 0] (al' := [(0, .ref (e_ad E a0)), (1, .int a1), (2, .int 0), (3, .int 1)]) rfl ?_
    unfold f_X9_home_L18
    refine s_lp2 (al := fun y18_2 y18_3 => [(0, .ref (e_ad E a0)), (1, .int a1), (2, .int y18_2), (3, .int y18_3)]) (fun kk18 hL18 g18 y18_2 y18_3 => ?_) _ _ _ _
    refine s_v (fun _ k => tk_iload_n G dX9_home_18 3 rfl (tk_bipush G dX9_home_19 cB_6 k)) ?_
    refine s_icmp_ge (tgt := 53) G dX9_home_21 (by decide) (fun q21 => ?_) (fun q21 => ?_)
    ·
      refine s_sub [0, 1, 2] (al' := [(0, .ref (e_ad E a0)), (1, .int a1), (2, .int y18_2)]) rfl ?_
      exact hX53 _ _
    ·
      refine s_v (fun _ k => tk_aload_n G dX9_home_24 0 rfl (tk_iload_n G dX9_home_25 1 rfl (tk_iload_n G dX9_home_26 3 rfl (tk_iconst G dX9_home_27 cI_0 k)))) ?_
      refine s_callVI (As := [.int a1, .int y18_3, .int 0]) G dX9_home_28 wY_X9_counts wM_X9_228 wI_X9_counts wS_X9_counts (tk_rm hR (by decide) (by decide)) kX9 k0 (by decide) (c_X9_counts E g18 a0 a1 y18_3 0 k0) rfl rfl (Nat.le_of_ble_eq_true rfl) ⟨Nat.zero_le _, Nat.zero_le _⟩ (fun x28 => ?_)
      refine s_v (fun _ k => tk_aload_n G dX9_home_31 0 rfl (tk_iload_n G dX9_home_32 1 rfl (tk_iload_n G dX9_home_33 2 rfl (tk_iconst G dX9_home_34 cI_0 k)))) ?_
      refine s_callVI (As := [.int a1, .int y18_2, .int 0]) G dX9_home_35 wY_X9_counts wM_X9_228 wI_X9_counts wS_X9_counts (tk_rm hR (by decide) (by decide)) kX9 k0 (by decide) (c_X9_counts E x28.2 a0 a1 y18_2 0 k0) rfl rfl (Nat.le_of_ble_eq_true rfl) ⟨Nat.zero_le _, Nat.zero_le _⟩ (fun x35 => ?_)
      refine s_icmp_le (tgt := 45) G dX9_home_38 (by decide) (fun q38 => ?_) (fun q38 => ?_)
      ·
        refine s_v (fun _ k => tk_iload_n G dX9_home_45 2 rfl (tk_istore_n (al' := [(2, .int y18_2), (0, .ref (e_ad E a0)), (1, .int a1), (3, .int y18_3)]) G dX9_home_46 (by decide) rfl (tk_iinc (al' := [(3, .int (y18_3 + 1)), (2, .int y18_2), (0, .ref (e_ad E a0)), (1, .int a1)]) G dX9_home_47 3 rfl (ci_1 _) (by decide) rfl (tk_goto (tgt := 18) G dX9_home_50 (by decide) k)))) ?_
        refine s_sub [2, 3, 1, 0] (al' := [(0, .ref (e_ad E a0)), (1, .int a1), (2, .int y18_2), (3, .int (y18_3 + 1))]) rfl ?_
        exact hL18 _ _ _
      ·
        refine s_v (fun _ k => tk_iload_n G dX9_home_41 3 rfl (tk_goto (tgt := 46) G dX9_home_42 (by decide) k)) ?_
        refine s_v (fun _ k => tk_istore_n (al' := [(2, .int y18_3), (0, .ref (e_ad E a0)), (1, .int a1), (3, .int y18_3)]) G dX9_home_46 (by decide) rfl (tk_iinc (al' := [(3, .int (y18_3 + 1)), (2, .int y18_3), (0, .ref (e_ad E a0)), (1, .int a1)]) G dX9_home_47 3 rfl (ci_1 _) (by decide) rfl (tk_goto (tgt := 18) G dX9_home_50 (by decide) k))) ?_
        refine s_sub [2, 3, 1, 0] (al' := [(0, .ref (e_ad E a0)), (1, .int a1), (2, .int y18_3), (3, .int (y18_3 + 1))]) rfl ?_
        exact hL18 _ _ _
theorem c_X9_home (E : tkE) (h : tkH) (a0 : Nat) (a1 : Int32) (k0 : kd a0 = 12) : ∀ x, f_X9_home h a0 a1 = some x → tkM E yX9_home cX9_home 4 (some .int) 2 tkF [.ref (e_ad E a0), .int a1] h (some (.int x.1)) x.2 := fun x hx => tkM_of (by decide) (Nat.le_of_ble_eq_true rfl) (fun _ hR G => w_X9_home hR G h a0 a1 k0 x hx)
set_option maxRecDepth 100000 in
set_option maxHeartbeats 4000000 in
theorem w_X9_isStep {E : tkE} {X : tkX} (hR : x_R X = tkR 2) (G : tkG E X cX9_isStep 3 RX9 (some .boolean)) (h : tkH) (a0 : Nat) (a1 : Int32) (a2 : Int32) (k0 : kd a0 = 12) : tkS E X 3 0 0 (tkZi E X) 0 [(0, .ref (e_ad E a0)), (1, .int a1), (2, .int a2)] [] h (f_X9_isStep h a0 a1 a2) := by
  unfold f_X9_isStep
  refine s_v (fun _ k => tk_aload_n G dX9_isStep_0 0 rfl (tk_iload_n G dX9_isStep_1 1 rfl k)) ?_
  refine s_callVI (As := [.int a1]) G dX9_isStep_2 wY_X9_isTale wM_X9_71 wI_X9_isTale wS_X9_isTale (tk_rm hR (by decide) (by decide)) kX9 k0 (by decide) (c_X9_isTale E h a0 a1 k0) rfl rfl (Nat.le_of_ble_eq_true rfl) ⟨Nat.zero_le _, Nat.zero_le _⟩ (fun x2 => ?_)
  refine s_if_eq (tgt := 31) G dX9_isStep_5 (by decide) (fun q5 => ?_) (fun q5 => ?_)
  ·
    refine s_v (fun _ k => tk_iconst G dX9_isStep_31 cI_0 k) ?_
    exact s_zret G dX9_isStep_32 (by decide)
  ·
    refine s_v (fun _ k => tk_iload_n G dX9_isStep_8 2 rfl (tk_iconst G dX9_isStep_9 cI_0 (tk_aload_n G dX9_isStep_10 0 rfl (tk_gr G kX9 dX9_isStep_11 wF_X9_9 k0 gR_9_0 (tk_bipush G dX9_isStep_14 cB_70 (tk_iload_n G dX9_isStep_16 1 rfl (tk_iadd G dX9_isStep_17 k))))))) ?_
    refine s_iald G dX9_isStep_18 (kF_9_0 k0) (fun v18 => ?_)
    refine s_v (fun _ k => tk_iconst G dX9_isStep_19 cI_1 (tk_isub G dX9_isStep_20 k)) ?_
    refine s_callSI (As := [.int a2, .int 0, .int (v18 - 1)]) G dX9_isStep_21 wY_X9_within wM_X9_50 wI_X9_within (tk_rm hR (by decide) (by decide)) (c_X9_within E x2.2 a2 0 (v18 - 1)) rfl rfl (Nat.le_of_ble_eq_true rfl) ⟨Nat.zero_le _, Nat.zero_le _⟩ (fun x21 => ?_)
    refine s_if_eq (tgt := 31) G dX9_isStep_24 (by decide) (fun q24 => ?_) (fun q24 => ?_)
    ·
      refine s_v (fun _ k => tk_iconst G dX9_isStep_31 cI_0 k) ?_
      exact s_zret G dX9_isStep_32 (by decide)
    ·
      refine s_v (fun _ k => tk_iconst G dX9_isStep_27 cI_1 (tk_goto (tgt := 32) G dX9_isStep_28 (by decide) k)) ?_
      exact s_zret G dX9_isStep_32 (by decide)
theorem c_X9_isStep (E : tkE) (h : tkH) (a0 : Nat) (a1 : Int32) (a2 : Int32) (k0 : kd a0 = 12) : ∀ x, f_X9_isStep h a0 a1 a2 = some x → tkM E yX9_isStep cX9_isStep 3 (some .boolean) 2 tkF [.ref (e_ad E a0), .int a1, .int a2] h (some (.int x.1)) x.2 := fun x hx => tkM_of (by decide) (Nat.le_of_ble_eq_true rfl) (fun _ hR G => w_X9_isStep hR G h a0 a1 a2 k0 x hx)
set_option maxRecDepth 100000 in
set_option maxHeartbeats 4000000 in
theorem w_X9_laidTo {E : tkE} {X : tkX} (hR : x_R X = tkR 2) (G : tkG E X cX9_laidTo 2 RX9 (some .int)) (h : tkH) (a0 : Nat) (a1 : Int32) (k0 : kd a0 = 12) : tkS E X 2 0 0 (tkZi E X) 0 [(0, .ref (e_ad E a0)), (1, .int a1)] [] h (f_X9_laidTo h a0 a1) := by
  unfold f_X9_laidTo
  refine s_v (fun _ k => tk_aload_n G dX9_laidTo_0 0 rfl (tk_gr G kX9 dX9_laidTo_1 wF_X9_9 k0 gR_9_0 (tk_bipush G dX9_laidTo_4 cB_70 (tk_iload_n G dX9_laidTo_6 1 rfl (tk_iadd G dX9_laidTo_7 k))))) ?_
  refine s_iald G dX9_laidTo_8 (kF_9_0 k0) (fun v8 => ?_)
  refine s_v (fun _ k => tk_aload_n G dX9_laidTo_9 0 rfl (tk_iload_n G dX9_laidTo_10 1 rfl k)) ?_
  refine s_callVI (As := [.int a1]) G dX9_laidTo_11 wY_X9_laidFrom wM_X9_96 wI_X9_laidFrom wS_X9_laidFrom (tk_rm hR (by decide) (by decide)) kX9 k0 (by decide) (c_X9_laidFrom E h a0 a1 k0) rfl rfl (Nat.le_of_ble_eq_true rfl) ⟨Nat.zero_le _, Nat.zero_le _⟩ (fun x11 => ?_)
  refine s_v (fun _ k => tk_isub G dX9_laidTo_14 k) ?_
  exact s_iret G dX9_laidTo_15
theorem c_X9_laidTo (E : tkE) (h : tkH) (a0 : Nat) (a1 : Int32) (k0 : kd a0 = 12) : ∀ x, f_X9_laidTo h a0 a1 = some x → tkM E yX9_laidTo cX9_laidTo 2 (some .int) 2 tkF [.ref (e_ad E a0), .int a1] h (some (.int x.1)) x.2 := fun x hx => tkM_of (by decide) (Nat.le_of_ble_eq_true rfl) (fun _ hR G => w_X9_laidTo hR G h a0 a1 k0 x hx)
set_option maxRecDepth 100000 in
set_option maxHeartbeats 4000000 in
theorem w_X9_lay {E : tkE} {X : tkX} (hR : x_R X = tkR 2) (G : tkG E X cX9_lay 6 RX9 (some .int)) (h : tkH) (a0 : Nat) (a1 : Int32) (a2 : Int32) (k0 : kd a0 = 12) : tkS E X 6 0 0 (tkZi E X) 0 [(0, .ref (e_ad E a0)), (1, .int a1), (2, .int a2)] [] h (f_X9_lay h a0 a1 a2) := by
  unfold f_X9_lay
  refine s_v (fun _ k => tk_aload_n G dX9_lay_0 0 rfl (tk_iload_n G dX9_lay_1 1 rfl k)) ?_
  refine s_callVI (As := [.int a1]) G dX9_lay_2 wY_X9_isTale wM_X9_71 wI_X9_isTale wS_X9_isTale (tk_rm hR (by decide) (by decide)) kX9 k0 (by decide) (c_X9_isTale E h a0 a1 k0) rfl rfl (Nat.le_of_ble_eq_true rfl) ⟨Nat.zero_le _, Nat.zero_le _⟩ (fun x2 => ?_)
  have hJ15 : ∀ (g15 : tkH), tkS E X 6 0 0 (tkZi E X) 15 [(0, .ref (e_ad E a0))] [] g15 (f_X9_lay_J15 a0 g15) := by
    intro g15
    unfold f_X9_lay_J15
    refine s_v (fun _ k => tk_aload_n G dX9_lay_15 0 rfl (tk_ldc G dX9_lay_16 wK_X9_66 k)) ?_
    refine s_callVI (As := [.int (-100001)]) G dX9_lay_18 wY_X9_finding wM_X9_58 wI_X9_finding wS_X9_finding (tk_rm hR (by decide) (by decide)) kX9 k0 (by decide) (c_X9_finding E g15 a0 (-100001) k0) rfl rfl (Nat.le_of_ble_eq_true rfl) ⟨Nat.zero_le _, Nat.zero_le _⟩ (fun x18 => ?_)
    exact s_iret G dX9_lay_21
  refine s_if_eq (tgt := 15) G dX9_lay_5 (by decide) (fun q5 => ?_) (fun q5 => ?_)
  ·
    refine s_sub [0] (al' := [(0, .ref (e_ad E a0))]) rfl ?_
    exact hJ15 _
  ·
    refine s_v (fun _ k => tk_iload_n G dX9_lay_8 2 rfl k) ?_
    refine s_callSI (As := [.int a2]) G dX9_lay_9 wY_X9_isSheet wM_X9_232 wI_X9_isSheet (tk_rm hR (by decide) (by decide)) (c_X9_isSheet E x2.2 a2) rfl rfl (Nat.le_of_ble_eq_true rfl) ⟨Nat.zero_le _, Nat.zero_le _⟩ (fun x9 => ?_)
    refine s_if_ne (tgt := 22) G dX9_lay_12 (by decide) (fun q12 => ?_) (fun q12 => ?_)
    ·
      refine s_sub [0] (al' := [(0, .ref (e_ad E a0))]) rfl ?_
      exact hJ15 _
    ·
      refine s_v (fun _ k => tk_aload_n G dX9_lay_22 0 rfl (tk_gr G kX9 dX9_lay_23 wF_X9_16 k0 gR_9_4 (tk_iload_n G dX9_lay_26 2 rfl k))) ?_
      refine s_iald G dX9_lay_27 (kF_9_4 k0) (fun v27 => ?_)
      refine s_if_ne (tgt := 38) G dX9_lay_28 (by decide) (fun q28 => ?_) (fun q28 => ?_)
      ·
        refine s_v (fun _ k => tk_aload_n G dX9_lay_31 0 rfl (tk_ldc G dX9_lay_32 wK_X9_235 k)) ?_
        refine s_callVI (As := [.int (-100002)]) G dX9_lay_34 wY_X9_finding wM_X9_58 wI_X9_finding wS_X9_finding (tk_rm hR (by decide) (by decide)) kX9 k0 (by decide) (c_X9_finding E x9.2 a0 (-100002) k0) rfl rfl (Nat.le_of_ble_eq_true rfl) ⟨Nat.zero_le _, Nat.zero_le _⟩ (fun x34 => ?_)
        exact s_iret G dX9_lay_37
      ·
        refine s_v (fun _ k => tk_aload_n G dX9_lay_38 0 rfl (tk_gr G kX9 dX9_lay_39 wF_X9_19 k0 gR_9_5 (tk_iload_n G dX9_lay_42 2 rfl k))) ?_
        refine s_iald G dX9_lay_43 (kF_9_5 k0) (fun v43 => ?_)
        refine s_v (fun _ k => tk_iconst G dX9_lay_44 cI_3 (tk_idiv G dX9_lay_45 (by decide) (tk_istore_n (al' := [(3, .int (v43 / 3)), (0, .ref (e_ad E a0)), (1, .int a1), (2, .int a2)]) G dX9_lay_46 (by decide) rfl (tk_bipush G dX9_lay_47 cB_30 (tk_iload_n G dX9_lay_49 3 rfl (tk_imul G dX9_lay_50 (tk_istore (al' := [(4, .int (30 * a2)), (3, .int (v43 / 3)), (0, .ref (e_ad E a0)), (1, .int a1), (2, .int a2)]) G dX9_lay_51 (by decide) rfl (tk_iconst G dX9_lay_53 cI_0 (tk_istore (al' := [(5, .int 0), (4, .int (30 * a2)), (3, .int (v43 / 3)), (0, .ref (e_ad E a0)), (1, .int a1), (2, .int a2)]) G dX9_lay_54 (by decide) rfl k))))))))) ?_
        have hX120 : ∀ (gz120 : tkH), tkS E X 6 0 0 (tkZi E X) 120 [(0, .ref (e_ad E a0))] [] gz120 ((f_X9_finding gz120 a0 (-100001)).bind fun x123 => some (x123.1, x123.2)) := by
          intro gz120
          refine s_v (fun _ k => tk_aload_n G dX9_lay_120 0 rfl (tk_ldc G dX9_lay_121 wK_X9_66 k)) ?_
          refine s_callVI (As := [.int (-100001)]) G dX9_lay_123 wY_X9_finding wM_X9_58 wI_X9_finding wS_X9_finding (tk_rm hR (by decide) (by decide)) kX9 k0 (by decide) (c_X9_finding E gz120 a0 (-100001) k0) rfl rfl (Nat.le_of_ble_eq_true rfl) ⟨Nat.zero_le _, Nat.zero_le _⟩ (fun x123 => ?_)
          exact s_iret G dX9_lay_126
        have hX133 : ∀ (gz133 : tkH), tkS E X 6 0 0 (tkZi E X) 133 [(0, .ref (e_ad E a0)), (1, .int a1), (3, .int (v43 / 3)), (4, .int (30 * a2))] [] gz133 ((f_X9_keep gz133 a0).bind fun x134 => f_X9_lay_L140 v43 a0 a2 a1 (fun gz199 => (wrI gz199 (fld a0 0) (70 + a1) (v43 / 3)).bind fun h208 => some (v43 / 3, h208)) FU x134 0) := by
          intro gz133
          refine s_v (fun _ k => tk_aload_n G dX9_lay_133 0 rfl k) ?_
          refine s_callVV (As := []) G dX9_lay_134 wY_X9_keep wM_X9_68 wI_X9_keep wS_X9_keep (tk_rm hR (by decide) (by decide)) kX9 k0 (by decide) (c_X9_keep E gz133 a0 k0) rfl rfl (Nat.le_of_ble_eq_true rfl) ⟨Nat.zero_le _, Nat.zero_le _⟩ (fun x134 => ?_)
          refine s_v (fun _ k => tk_iconst G dX9_lay_137 cI_0 (tk_istore (al' := [(5, .int 0), (0, .ref (e_ad E a0)), (1, .int a1), (3, .int (v43 / 3)), (4, .int (30 * a2))]) G dX9_lay_138 (by decide) rfl k)) ?_
          have hX199 : ∀ (gz199 : tkH), tkS E X 6 0 0 (tkZi E X) 199 [(0, .ref (e_ad E a0)), (1, .int a1), (3, .int (v43 / 3))] [] gz199 ((wrI gz199 (fld a0 0) (70 + a1) (v43 / 3)).bind fun h208 => some (v43 / 3, h208)) := by
            intro gz199
            refine s_v (fun _ k => tk_aload_n G dX9_lay_199 0 rfl (tk_gr G kX9 dX9_lay_200 wF_X9_9 k0 gR_9_0 (tk_bipush G dX9_lay_203 cB_70 (tk_iload_n G dX9_lay_205 1 rfl (tk_iadd G dX9_lay_206 (tk_iload_n G dX9_lay_207 2 rfl k)))))) ?_
            refine s_iast G dX9_lay_208 (kF_9_0 k0) (fun h208 => ?_)
            refine s_v (fun _ k => tk_iload_n G dX9_lay_209 2 rfl k) ?_
            exact s_iret G dX9_lay_210
          refine s_sub [1, 2, 3, 4, 0] (al' := [(0, .ref (e_ad E a0)), (1, .int a1), (3, .int (v43 / 3)), (4, .int (30 * a2)), (5, .int 0)]) rfl ?_
          unfold f_X9_lay_L140
          refine s_lp1 (al := fun y140_5 => [(0, .ref (e_ad E a0)), (1, .int a1), (3, .int (v43 / 3)), (4, .int (30 * a2)), (5, .int y140_5)]) (fun kk140 hL140 g140 y140_5 => ?_) _ _ _
          refine s_v (fun _ k => tk_iload G dX9_lay_140 4 rfl (tk_iload_n G dX9_lay_142 2 rfl k)) ?_
          refine s_icmp_ge (tgt := 199) G dX9_lay_143 (by decide) (fun q143 => ?_) (fun q143 => ?_)
          ·
            refine s_sub [0, 1, 2] (al' := [(0, .ref (e_ad E a0)), (1, .int a1), (3, .int (v43 / 3))]) rfl ?_
            exact hX199 _
          ·
            refine s_v (fun _ k => tk_aload_n G dX9_lay_146 0 rfl (tk_iload_n G dX9_lay_147 1 rfl (tk_iload G dX9_lay_148 4 rfl (tk_aload_n G dX9_lay_150 0 rfl (tk_gr G kX9 dX9_lay_151 wF_X9_22 k0 gR_9_6 (tk_iload G dX9_lay_154 3 rfl (tk_iconst G dX9_lay_156 cI_3 (tk_iload G dX9_lay_157 4 rfl (tk_imul G dX9_lay_159 (tk_iadd G dX9_lay_160 k)))))))))) ?_
            refine s_iald G dX9_lay_161 (kF_9_6 k0) (fun v161 => ?_)
            refine s_v (fun _ k => tk_aload_n G dX9_lay_162 0 rfl (tk_gr G kX9 dX9_lay_163 wF_X9_22 k0 gR_9_6 (tk_iload G dX9_lay_166 3 rfl (tk_iconst G dX9_lay_168 cI_3 (tk_iload G dX9_lay_169 4 rfl (tk_imul G dX9_lay_171 (tk_iadd G dX9_lay_172 (tk_iconst G dX9_lay_173 cI_1 (tk_iadd G dX9_lay_174 k))))))))) ?_
            refine s_iald G dX9_lay_175 (kF_9_6 k0) (fun v175 => ?_)
            refine s_v (fun _ k => tk_aload_n G dX9_lay_176 0 rfl (tk_gr G kX9 dX9_lay_177 wF_X9_22 k0 gR_9_6 (tk_iload G dX9_lay_180 3 rfl (tk_iconst G dX9_lay_182 cI_3 (tk_iload G dX9_lay_183 4 rfl (tk_imul G dX9_lay_185 (tk_iadd G dX9_lay_186 (tk_iconst G dX9_lay_187 cI_2 (tk_iadd G dX9_lay_188 k))))))))) ?_
            refine s_iald G dX9_lay_189 (kF_9_6 k0) (fun v189 => ?_)
            refine s_callVV (As := [.int a1, .int y140_5, .int v161, .int v175, .int v189]) G dX9_lay_190 wY_X9_setStep wM_X9_81 wI_X9_setStep wS_X9_setStep (tk_rm hR (by decide) (by decide)) kX9 k0 (by decide) (c_X9_setStep E g140 a0 a1 y140_5 v161 v175 v189 k0) rfl rfl (Nat.le_of_ble_eq_true rfl) ⟨Nat.zero_le _, Nat.zero_le _⟩ (fun x190 => ?_)
            refine s_v (fun _ k => tk_iinc (al' := [(5, .int (y140_5 + 1)), (0, .ref (e_ad E a0)), (1, .int a1), (3, .int (v43 / 3)), (4, .int (30 * a2))]) G dX9_lay_193 4 rfl (ci_1 _) (by decide) rfl (tk_goto (tgt := 140) G dX9_lay_196 (by decide) k)) ?_
            refine s_sub [1, 2, 3, 4, 0] (al' := [(0, .ref (e_ad E a0)), (1, .int a1), (3, .int (v43 / 3)), (4, .int (30 * a2)), (5, .int (y140_5 + 1))]) rfl ?_
            exact hL140 _ _
        refine s_sub [3, 4, 2, 1, 0] (al' := [(0, .ref (e_ad E a0)), (1, .int a1), (3, .int (v43 / 3)), (4, .int (30 * a2)), (5, .int 0)]) rfl ?_
        unfold f_X9_lay_L56
        refine s_lp1 (al := fun y56_5 => [(0, .ref (e_ad E a0)), (1, .int a1), (3, .int (v43 / 3)), (4, .int (30 * a2)), (5, .int y56_5)]) (fun kk56 hL56 g56 y56_5 => ?_) _ _ _
        refine s_v (fun _ k => tk_iload G dX9_lay_56 4 rfl (tk_iload_n G dX9_lay_58 2 rfl k)) ?_
        refine s_icmp_ge (tgt := 133) G dX9_lay_59 (by decide) (fun q59 => ?_) (fun q59 => ?_)
        ·
          refine s_sub [0, 1, 2, 3] (al' := [(0, .ref (e_ad E a0)), (1, .int a1), (3, .int (v43 / 3)), (4, .int (30 * a2))]) rfl ?_
          exact hX133 _
        ·
          refine s_v (fun _ k => tk_aload_n G dX9_lay_62 0 rfl (tk_gr G kX9 dX9_lay_63 wF_X9_22 k0 gR_9_6 (tk_iload G dX9_lay_66 3 rfl (tk_iconst G dX9_lay_68 cI_3 (tk_iload G dX9_lay_69 4 rfl (tk_imul G dX9_lay_71 (tk_iadd G dX9_lay_72 k))))))) ?_
          refine s_iald G dX9_lay_73 (kF_9_6 k0) (fun v73 => ?_)
          refine s_callSI (As := [.int v73]) G dX9_lay_74 wY_X9_isMotif wM_X9_75 wI_X9_isMotif (tk_rm hR (by decide) (by decide)) (c_X9_isMotif E g56 v73) rfl rfl (Nat.le_of_ble_eq_true rfl) ⟨Nat.zero_le _, Nat.zero_le _⟩ (fun x74 => ?_)
          refine s_if_eq (tgt := 120) G dX9_lay_77 (by decide) (fun q77 => ?_) (fun q77 => ?_)
          ·
            refine s_sub [0] (al' := [(0, .ref (e_ad E a0))]) rfl ?_
            exact hX120 _
          ·
            refine s_v (fun _ k => tk_aload_n G dX9_lay_80 0 rfl (tk_gr G kX9 dX9_lay_81 wF_X9_22 k0 gR_9_6 (tk_iload G dX9_lay_84 3 rfl (tk_iconst G dX9_lay_86 cI_3 (tk_iload G dX9_lay_87 4 rfl (tk_imul G dX9_lay_89 (tk_iadd G dX9_lay_90 (tk_iconst G dX9_lay_91 cI_1 (tk_iadd G dX9_lay_92 k))))))))) ?_
            refine s_iald G dX9_lay_93 (kF_9_6 k0) (fun v93 => ?_)
            refine s_callSI (As := [.int v93]) G dX9_lay_94 wY_X9_isRole wM_X9_78 wI_X9_isRole (tk_rm hR (by decide) (by decide)) (c_X9_isRole E x74.2 v93) rfl rfl (Nat.le_of_ble_eq_true rfl) ⟨Nat.zero_le _, Nat.zero_le _⟩ (fun x94 => ?_)
            refine s_if_eq (tgt := 120) G dX9_lay_97 (by decide) (fun q97 => ?_) (fun q97 => ?_)
            ·
              refine s_sub [0] (al' := [(0, .ref (e_ad E a0))]) rfl ?_
              exact hX120 _
            ·
              refine s_v (fun _ k => tk_aload_n G dX9_lay_100 0 rfl (tk_gr G kX9 dX9_lay_101 wF_X9_22 k0 gR_9_6 (tk_iload G dX9_lay_104 3 rfl (tk_iconst G dX9_lay_106 cI_3 (tk_iload G dX9_lay_107 4 rfl (tk_imul G dX9_lay_109 (tk_iadd G dX9_lay_110 (tk_iconst G dX9_lay_111 cI_2 (tk_iadd G dX9_lay_112 k))))))))) ?_
              refine s_iald G dX9_lay_113 (kF_9_6 k0) (fun v113 => ?_)
              refine s_callSI (As := [.int v113]) G dX9_lay_114 wY_X9_isRole wM_X9_78 wI_X9_isRole (tk_rm hR (by decide) (by decide)) (c_X9_isRole E x94.2 v113) rfl rfl (Nat.le_of_ble_eq_true rfl) ⟨Nat.zero_le _, Nat.zero_le _⟩ (fun x114 => ?_)
              refine s_if_ne (tgt := 127) G dX9_lay_117 (by decide) (fun q117 => ?_) (fun q117 => ?_)
              ·
                refine s_sub [0] (al' := [(0, .ref (e_ad E a0))]) rfl ?_
                exact hX120 _
              ·
                refine s_v (fun _ k => tk_iinc (al' := [(5, .int (y56_5 + 1)), (0, .ref (e_ad E a0)), (1, .int a1), (3, .int (v43 / 3)), (4, .int (30 * a2))]) G dX9_lay_127 4 rfl (ci_1 _) (by decide) rfl (tk_goto (tgt := 56) G dX9_lay_130 (by decide) k)) ?_
                refine s_sub [1, 2, 3, 4, 0] (al' := [(0, .ref (e_ad E a0)), (1, .int a1), (3, .int (v43 / 3)), (4, .int (30 * a2)), (5, .int (y56_5 + 1))]) rfl ?_
                exact hL56 _ _
theorem c_X9_lay (E : tkE) (h : tkH) (a0 : Nat) (a1 : Int32) (a2 : Int32) (k0 : kd a0 = 12) : ∀ x, f_X9_lay h a0 a1 a2 = some x → tkM E yX9_lay cX9_lay 6 (some .int) 2 tkF [.ref (e_ad E a0), .int a1, .int a2] h (some (.int x.1)) x.2 := fun x hx => tkM_of (by decide) (Nat.le_of_ble_eq_true rfl) (fun _ hR G => w_X9_lay hR G h a0 a1 a2 k0 x hx)
set_option maxRecDepth 100000 in
set_option maxHeartbeats 4000000 in
theorem w_X9_layBy {E : tkE} {X : tkX} (hR : x_R X = tkR 2) (G : tkG E X cX9_layBy 5 RX9 (some .int)) (h : tkH) (a0 : Nat) (a1 : Int32) (k0 : kd a0 = 12) : tkS E X 5 0 0 (tkZi E X) 0 [(0, .ref (e_ad E a0)), (1, .int a1)] [] h (f_X9_layBy h a0 a1) := by
  unfold f_X9_layBy
  refine s_v (fun _ k => tk_aload_n G dX9_layBy_0 0 rfl (tk_iload_n G dX9_layBy_1 1 rfl k)) ?_
  refine s_callVV (As := [.int a1]) G dX9_layBy_2 wY_X9_carry wM_X9_148 wI_X9_carry wS_X9_carry (tk_rm hR (by decide) (by decide)) kX9 k0 (by decide) (c_X9_carry E h a0 a1 k0) rfl rfl (Nat.le_of_ble_eq_true rfl) ⟨Nat.zero_le _, Nat.zero_le _⟩ (fun x2 => ?_)
  refine s_v (fun _ k => tk_aload_n G dX9_layBy_5 0 rfl (tk_gi G kX9 dX9_layBy_6 wF_X9_110 k0 gI_9_10 (tk_istore_n (al' := [(2, .int (x2 a0 10)), (0, .ref (e_ad E a0)), (1, .int a1)]) G dX9_layBy_9 (by decide) rfl k))) ?_
  have hX160 : ∀ (gz160 : tkH), tkS E X 5 0 0 (tkZi E X) 160 [(0, .ref (e_ad E a0))] [] gz160 ((f_X9_leastFrom gz160 a0 (gz160 a0 9) (gz160 a0 13)).bind fun x169 => some (x169.1, x169.2)) := by
    intro gz160
    refine s_v (fun _ k => tk_aload_n G dX9_layBy_160 0 rfl (tk_aload_n G dX9_layBy_161 0 rfl (tk_gi G kX9 dX9_layBy_162 wF_X9_107 k0 gI_9_9 (tk_aload_n G dX9_layBy_165 0 rfl (tk_gi G kX9 dX9_layBy_166 wF_X9_127 k0 gI_9_13 k))))) ?_
    refine s_callVI (As := [.int (gz160 a0 9), .int (gz160 a0 13)]) G dX9_layBy_169 wY_X9_leastFrom wM_X9_155 wI_X9_leastFrom wS_X9_leastFrom (tk_rm hR (by decide) (by decide)) kX9 k0 (by decide) (c_X9_leastFrom E gz160 a0 (gz160 a0 9) (gz160 a0 13) k0) rfl rfl (Nat.le_of_ble_eq_true rfl) ⟨Nat.zero_le _, Nat.zero_le _⟩ (fun x169 => ?_)
    exact s_iret G dX9_layBy_172
  refine s_sub [1, 0] (al' := [(0, .ref (e_ad E a0)), (2, .int (x2 a0 10))]) rfl ?_
  unfold f_X9_layBy_L10
  refine s_lp1 (al := fun y10_2 => [(0, .ref (e_ad E a0)), (2, .int y10_2)]) (fun kk10 hL10 g10 y10_2 => ?_) _ _ _
  refine s_v (fun _ k => tk_iload_n G dX9_layBy_10 1 rfl (tk_aload_n G dX9_layBy_11 0 rfl (tk_gi G kX9 dX9_layBy_12 wF_X9_107 k0 gI_9_9 k))) ?_
  refine s_icmp_lt (tgt := 160) G dX9_layBy_15 (by decide) (fun q15 => ?_) (fun q15 => ?_)
  ·
    refine s_sub [0] (al' := [(0, .ref (e_ad E a0))]) rfl ?_
    exact hX160 _
  ·
    refine s_v (fun _ k => tk_aload_n G dX9_layBy_18 0 rfl (tk_gi G kX9 dX9_layBy_19 wF_X9_130 k0 gI_9_14 (tk_istore_n (al' := [(3, .int (g10 a0 14)), (0, .ref (e_ad E a0)), (2, .int y10_2)]) G dX9_layBy_22 (by decide) rfl k))) ?_
    have hX154 : ∀ (gz154 : tkH), tkS E X 5 0 0 (tkZi E X) 154 [(0, .ref (e_ad E a0)), (2, .int y10_2)] [] gz154 (kk10 gz154 (y10_2 + (-1))) := by
      intro gz154
      refine s_v (fun _ k => tk_iinc (al' := [(2, .int (y10_2 + (-1))), (0, .ref (e_ad E a0))]) G dX9_layBy_154 1 rfl (ci_m1 _) (by decide) rfl (tk_goto (tgt := 10) G dX9_layBy_157 (by decide) k)) ?_
      refine s_sub [1, 0] (al' := [(0, .ref (e_ad E a0)), (2, .int (y10_2 + (-1)))]) rfl ?_
      exact hL10 _ _
    refine s_sub [1, 2, 0] (al' := [(0, .ref (e_ad E a0)), (2, .int y10_2), (3, .int (g10 a0 14))]) rfl ?_
    unfold f_X9_layBy_L23
    refine s_lp1 (al := fun y23_3 => [(0, .ref (e_ad E a0)), (2, .int y10_2), (3, .int y23_3)]) (fun kk23 hL23 g23 y23_3 => ?_) _ _ _
    refine s_v (fun _ k => tk_iload_n G dX9_layBy_23 2 rfl (tk_aload_n G dX9_layBy_24 0 rfl (tk_gi G kX9 dX9_layBy_25 wF_X9_127 k0 gI_9_13 k))) ?_
    refine s_icmp_lt (tgt := 154) G dX9_layBy_28 (by decide) (fun q28 => ?_) (fun q28 => ?_)
    ·
      refine s_sub [0, 1] (al' := [(0, .ref (e_ad E a0)), (2, .int y10_2)]) rfl ?_
      exact hX154 _
    ·
      refine s_v (fun _ k => tk_ldc G dX9_layBy_31 wK_X9_151 (tk_istore (al' := [(4, .int 1000000), (0, .ref (e_ad E a0)), (2, .int y10_2), (3, .int y23_3)]) G dX9_layBy_33 (by decide) rfl (tk_iload_n G dX9_layBy_35 2 rfl (tk_aload_n G dX9_layBy_36 1 rfl (tk_gi G kX9 dX9_layBy_37 wF_X9_110 k0 gI_9_10 k))))) ?_
      have hJ70 : ∀ (g70 : tkH) (y70_4 : Int32), tkS E X 5 0 0 (tkZi E X) 70 [(0, .ref (e_ad E a0)), (2, .int y10_2), (3, .int y23_3), (4, .int y70_4)] [] g70 (f_X9_layBy_J70 a0 y10_2 y23_3 kk23 g70 y70_4) := by
        intro g70 y70_4
        unfold f_X9_layBy_J70
        refine s_v (fun _ k => tk_iload_n G dX9_layBy_70 1 rfl (tk_aload_n G dX9_layBy_71 0 rfl (tk_gi G kX9 dX9_layBy_72 wF_X9_110 k0 gI_9_10 k))) ?_
        have hJ100 : ∀ (g100 : tkH) (y100_4 : Int32), tkS E X 5 0 0 (tkZi E X) 100 [(0, .ref (e_ad E a0)), (2, .int y10_2), (3, .int y23_3), (4, .int y100_4)] [] g100 (f_X9_layBy_J100 a0 y23_3 y10_2 kk23 g100 y100_4) := by
          intro g100 y100_4
          unfold f_X9_layBy_J100
          refine s_v (fun _ k => tk_iload_n G dX9_layBy_100 2 rfl (tk_aload_n G dX9_layBy_101 0 rfl (tk_gi G kX9 dX9_layBy_102 wF_X9_130 k0 gI_9_14 k))) ?_
          have hJ130 : ∀ (g130 : tkH) (y130_4 : Int32), tkS E X 5 0 0 (tkZi E X) 130 [(0, .ref (e_ad E a0)), (2, .int y10_2), (3, .int y23_3), (4, .int y130_4)] [] g130 (f_X9_layBy_J130 a0 y10_2 y23_3 kk23 g130 y130_4) := by
            intro g130 y130_4
            unfold f_X9_layBy_J130
            refine s_v (fun _ k => tk_aload_n G dX9_layBy_130 0 rfl (tk_gr G kX9 dX9_layBy_131 wF_X9_28 k0 gR_9_16 (tk_bipush G dX9_layBy_134 cB_11 (tk_iload_n G dX9_layBy_136 1 rfl (tk_imul G dX9_layBy_137 (tk_iload_n G dX9_layBy_138 2 rfl (tk_iadd G dX9_layBy_139 (tk_iload G dX9_layBy_140 3 rfl (tk_ldc G dX9_layBy_142 wK_X9_151 (tk_mmin G dX9_layBy_144 wM_X9_143 (tk_rmm hR (by decide) (Nat.le_of_ble_eq_true rfl)) ⟨Nat.zero_le _, Nat.zero_le _⟩ k)))))))))) ?_
            refine s_iast G dX9_layBy_147 (kF_9_16 k0) (fun h147 => ?_)
            refine s_v (fun _ k => tk_iinc (al' := [(3, .int (y23_3 + (-1))), (0, .ref (e_ad E a0)), (2, .int y10_2), (4, .int y130_4)]) G dX9_layBy_148 2 rfl (ci_m1 _) (by decide) rfl (tk_goto (tgt := 23) G dX9_layBy_151 (by decide) k)) ?_
            refine s_sub [1, 2, 0] (al' := [(0, .ref (e_ad E a0)), (2, .int y10_2), (3, .int (y23_3 + (-1)))]) rfl ?_
            exact hL23 _ _
          refine s_icmp_ge (tgt := 130) G dX9_layBy_105 (by decide) (fun q105 => ?_) (fun q105 => ?_)
          ·
            exact hJ130 _ _
          ·
            refine s_v (fun _ k => tk_iload G dX9_layBy_108 3 rfl (tk_aload_n G dX9_layBy_110 0 rfl (tk_gr G kX9 dX9_layBy_111 wF_X9_9 k0 gR_9_0 (tk_iconst G dX9_layBy_114 cI_3 k)))) ?_
            refine s_iald G dX9_layBy_115 (kF_9_0 k0) (fun v115 => ?_)
            refine s_v (fun _ k => tk_aload_n G dX9_layBy_116 0 rfl (tk_iload_n G dX9_layBy_117 1 rfl (tk_iload_n G dX9_layBy_118 2 rfl (tk_iconst G dX9_layBy_119 cI_1 (tk_iadd G dX9_layBy_120 k))))) ?_
            refine s_callVI (As := [.int y10_2, .int (y23_3 + 1)]) G dX9_layBy_121 wY_X9_pairsLeft wM_X9_136 wI_X9_pairsLeft wS_X9_pairsLeft (tk_rm hR (by decide) (by decide)) kX9 k0 (by decide) (c_X9_pairsLeft E g100 a0 y10_2 (y23_3 + 1) k0) rfl rfl (Nat.le_of_ble_eq_true rfl) ⟨Nat.zero_le _, Nat.zero_le _⟩ (fun x121 => ?_)
            refine s_v (fun _ k => tk_iadd G dX9_layBy_124 (tk_mmin G dX9_layBy_125 wM_X9_143 (tk_rmm hR (by decide) (Nat.le_of_ble_eq_true rfl)) ⟨Nat.zero_le _, Nat.zero_le _⟩ (tk_istore (al' := [(4, .int (mnI y100_4 (v115 + x121.1))), (0, .ref (e_ad E a0)), (2, .int y10_2), (3, .int y23_3)]) G dX9_layBy_128 (by decide) rfl k))) ?_
            refine s_sub [1, 2, 3, 0] (al' := [(0, .ref (e_ad E a0)), (2, .int y10_2), (3, .int y23_3), (4, .int (mnI y100_4 (v115 + x121.1)))]) rfl ?_
            exact hJ130 _ _
        refine s_icmp_ge (tgt := 100) G dX9_layBy_75 (by decide) (fun q75 => ?_) (fun q75 => ?_)
        ·
          exact hJ100 _ _
        ·
          refine s_v (fun _ k => tk_iload G dX9_layBy_78 3 rfl (tk_aload_n G dX9_layBy_80 0 rfl (tk_gr G kX9 dX9_layBy_81 wF_X9_9 k0 gR_9_0 (tk_iconst G dX9_layBy_84 cI_3 k)))) ?_
          refine s_iald G dX9_layBy_85 (kF_9_0 k0) (fun v85 => ?_)
          refine s_v (fun _ k => tk_aload_n G dX9_layBy_86 0 rfl (tk_iload_n G dX9_layBy_87 1 rfl (tk_iconst G dX9_layBy_88 cI_1 (tk_iadd G dX9_layBy_89 (tk_iload_n G dX9_layBy_90 2 rfl k))))) ?_
          refine s_callVI (As := [.int (y10_2 + 1), .int y23_3]) G dX9_layBy_91 wY_X9_pairsLeft wM_X9_136 wI_X9_pairsLeft wS_X9_pairsLeft (tk_rm hR (by decide) (by decide)) kX9 k0 (by decide) (c_X9_pairsLeft E g70 a0 (y10_2 + 1) y23_3 k0) rfl rfl (Nat.le_of_ble_eq_true rfl) ⟨Nat.zero_le _, Nat.zero_le _⟩ (fun x91 => ?_)
          refine s_v (fun _ k => tk_iadd G dX9_layBy_94 (tk_mmin G dX9_layBy_95 wM_X9_143 (tk_rmm hR (by decide) (Nat.le_of_ble_eq_true rfl)) ⟨Nat.zero_le _, Nat.zero_le _⟩ (tk_istore (al' := [(4, .int (mnI y70_4 (v85 + x91.1))), (0, .ref (e_ad E a0)), (2, .int y10_2), (3, .int y23_3)]) G dX9_layBy_98 (by decide) rfl k))) ?_
          refine s_sub [1, 2, 3, 0] (al' := [(0, .ref (e_ad E a0)), (2, .int y10_2), (3, .int y23_3), (4, .int (mnI y70_4 (v85 + x91.1)))]) rfl ?_
          exact hJ100 _ _
      refine s_icmp_ge (tgt := 70) G dX9_layBy_40 (by decide) (fun q40 => ?_) (fun q40 => ?_)
      ·
        refine s_sub [1, 2, 3, 0] (al' := [(0, .ref (e_ad E a0)), (2, .int y10_2), (3, .int y23_3), (4, .int 1000000)]) rfl ?_
        exact hJ70 _ _
      ·
        refine s_v (fun _ k => tk_iload_n G dX9_layBy_43 3 rfl (tk_aload_n G dX9_layBy_44 1 rfl (tk_gi G kX9 dX9_layBy_45 wF_X9_130 k0 gI_9_14 k))) ?_
        refine s_icmp_ge (tgt := 70) G dX9_layBy_48 (by decide) (fun q48 => ?_) (fun q48 => ?_)
        ·
          refine s_sub [1, 2, 3, 0] (al' := [(0, .ref (e_ad E a0)), (2, .int y10_2), (3, .int y23_3), (4, .int 1000000)]) rfl ?_
          exact hJ70 _ _
        ·
          refine s_v (fun _ k => tk_aload_n G dX9_layBy_51 1 rfl (tk_iload_n G dX9_layBy_52 2 rfl (tk_iload_n G dX9_layBy_53 3 rfl k))) ?_
          refine s_callVI (As := [.int y10_2, .int y23_3]) G dX9_layBy_54 wY_X9_pairCost wM_X9_152 wI_X9_pairCost wS_X9_pairCost (tk_rm hR (by decide) (by decide)) kX9 k0 (by decide) (c_X9_pairCost E g23 a0 y10_2 y23_3 k0) rfl rfl (Nat.le_of_ble_eq_true rfl) ⟨Nat.zero_le _, Nat.zero_le _⟩ (fun x54 => ?_)
          refine s_v (fun _ k => tk_aload_n G dX9_layBy_57 1 rfl (tk_iload_n G dX9_layBy_58 2 rfl (tk_iconst G dX9_layBy_59 cI_1 (tk_iadd G dX9_layBy_60 (tk_iload_n G dX9_layBy_61 3 rfl (tk_iconst G dX9_layBy_62 cI_1 (tk_iadd G dX9_layBy_63 k))))))) ?_
          refine s_callVI (As := [.int (y10_2 + 1), .int (y23_3 + 1)]) G dX9_layBy_64 wY_X9_leastFrom wM_X9_155 wI_X9_leastFrom wS_X9_leastFrom (tk_rm hR (by decide) (by decide)) kX9 k0 (by decide) (c_X9_leastFrom E x54.2 a0 (y10_2 + 1) (y23_3 + 1) k0) rfl rfl (Nat.le_of_ble_eq_true rfl) ⟨Nat.zero_le _, Nat.zero_le _⟩ (fun x64 => ?_)
          refine s_v (fun _ k => tk_iadd G dX9_layBy_67 (tk_istore (al' := [(4, .int (x54.1 + x64.1)), (0, .ref (e_ad E a0)), (2, .int y10_2), (3, .int y23_3)]) G dX9_layBy_68 (by decide) rfl k)) ?_
          refine s_sub [1, 2, 3, 0] (al' := [(0, .ref (e_ad E a0)), (2, .int y10_2), (3, .int y23_3), (4, .int (x54.1 + x64.1))]) rfl ?_
          exact hJ70 _ _
theorem c_X9_layBy (E : tkE) (h : tkH) (a0 : Nat) (a1 : Int32) (k0 : kd a0 = 12) : ∀ x, f_X9_layBy h a0 a1 = some x → tkM E yX9_layBy cX9_layBy 5 (some .int) 2 tkF [.ref (e_ad E a0), .int a1] h (some (.int x.1)) x.2 := fun x hx => tkM_of (by decide) (Nat.le_of_ble_eq_true rfl) (fun _ hR G => w_X9_layBy hR G h a0 a1 k0 x hx)
set_option maxRecDepth 100000 in
set_option maxHeartbeats 4000000 in
theorem w_X9_print {E : tkE} {X : tkX} (hR : x_R X = tkR 2) (G : tkG E X cX9_print 4 RX9 (some .int)) (h : tkH) (a0 : Nat) (a1 : Int32) (a2 : Int32) (k0 : kd a0 = 12) : tkS E X 4 0 0 (tkZi E X) 0 [(0, .ref (e_ad E a0)), (1, .int a1), (2, .int a2)] [] h (f_X9_print h a0 a1 a2) := by
  unfold f_X9_print
  refine s_v (fun _ k => tk_aload_n G dX9_print_0 0 rfl (tk_iload_n G dX9_print_1 1 rfl k)) ?_
  refine s_callVI (As := [.int a1]) G dX9_print_2 wY_X9_isTale wM_X9_71 wI_X9_isTale wS_X9_isTale (tk_rm hR (by decide) (by decide)) kX9 k0 (by decide) (c_X9_isTale E h a0 a1 k0) rfl rfl (Nat.le_of_ble_eq_true rfl) ⟨Nat.zero_le _, Nat.zero_le _⟩ (fun x2 => ?_)
  have hJ21 : ∀ (g21 : tkH), tkS E X 4 0 0 (tkZi E X) 21 [(0, .ref (e_ad E a0))] [] g21 (f_X9_print_J21 a0 g21) := by
    intro g21
    unfold f_X9_print_J21
    refine s_v (fun _ k => tk_aload_n G dX9_print_21 0 rfl (tk_ldc G dX9_print_22 wK_X9_66 k)) ?_
    refine s_callVI (As := [.int (-100001)]) G dX9_print_24 wY_X9_finding wM_X9_58 wI_X9_finding wS_X9_finding (tk_rm hR (by decide) (by decide)) kX9 k0 (by decide) (c_X9_finding E g21 a0 (-100001) k0) rfl rfl (Nat.le_of_ble_eq_true rfl) ⟨Nat.zero_le _, Nat.zero_le _⟩ (fun x24 => ?_)
    exact s_iret G dX9_print_27
  refine s_if_eq (tgt := 21) G dX9_print_5 (by decide) (fun q5 => ?_) (fun q5 => ?_)
  ·
    refine s_sub [0] (al' := [(0, .ref (e_ad E a0))]) rfl ?_
    exact hJ21 _
  ·
    refine s_v (fun _ k => tk_iload_n G dX9_print_8 2 rfl (tk_iconst G dX9_print_9 cI_m1 k)) ?_
    have hJ28 : ∀ (g28 : tkH), tkS E X 4 0 0 (tkZi E X) 28 [(0, .ref (e_ad E a0)), (1, .int a1), (2, .int a2)] [] g28 (f_X9_print_J28 a0 a1 a2 g28) := by
      intro g28
      unfold f_X9_print_J28
      refine s_v (fun _ k => tk_aload_n G dX9_print_28 0 rfl (tk_gr G kX9 dX9_print_29 wF_X9_9 k0 gR_9_0 (tk_bipush G dX9_print_32 cB_40 (tk_iload_n G dX9_print_34 1 rfl (tk_iadd G dX9_print_35 k))))) ?_
      refine s_iald G dX9_print_36 (kF_9_0 k0) (fun v36 => ?_)
      refine s_v (fun _ k => tk_iconst G dX9_print_37 cI_3 k) ?_
      refine s_icmp_eq (tgt := 48) G dX9_print_38 (by decide) (fun q38 => ?_) (fun q38 => ?_)
      ·
        refine s_v (fun _ k => tk_iload_n G dX9_print_48 2 rfl (tk_istore_n (al' := [(3, .int a2), (0, .ref (e_ad E a0)), (1, .int a1), (2, .int a2)]) G dX9_print_49 (by decide) rfl k)) ?_
        have hX59 : ∀ (gz59 : tkH), tkS E X 4 0 0 (tkZi E X) 59 [(0, .ref (e_ad E a0))] [] gz59 ((f_X9_finding gz59 a0 (-100007)).bind fun x62 => some (x62.1, x62.2)) := by
          intro gz59
          refine s_v (fun _ k => tk_aload_n G dX9_print_59 0 rfl (tk_ldc G dX9_print_60 wK_X9_102 k)) ?_
          refine s_callVI (As := [.int (-100007)]) G dX9_print_62 wY_X9_finding wM_X9_58 wI_X9_finding wS_X9_finding (tk_rm hR (by decide) (by decide)) kX9 k0 (by decide) (c_X9_finding E gz59 a0 (-100007) k0) rfl rfl (Nat.le_of_ble_eq_true rfl) ⟨Nat.zero_le _, Nat.zero_le _⟩ (fun x62 => ?_)
          exact s_iret G dX9_print_65
        have hX79 : ∀ (gz79 : tkH), tkS E X 4 0 0 (tkZi E X) 79 [(0, .ref (e_ad E a0)), (1, .int a1), (2, .int a2)] [] gz79 ((f_X9_keep gz79 a0).bind fun x80 => (rdI x80 (fld a0 0) (80 + a1)).bind fun v91 => (wrI x80 (fld a0 0) (80 + a1) a2).bind fun h102 => some (v91, h102)) := by
          intro gz79
          refine s_v (fun _ k => tk_aload_n G dX9_print_79 0 rfl k) ?_
          refine s_callVV (As := []) G dX9_print_80 wY_X9_keep wM_X9_68 wI_X9_keep wS_X9_keep (tk_rm hR (by decide) (by decide)) kX9 k0 (by decide) (c_X9_keep E gz79 a0 k0) rfl rfl (Nat.le_of_ble_eq_true rfl) ⟨Nat.zero_le _, Nat.zero_le _⟩ (fun x80 => ?_)
          refine s_v (fun _ k => tk_aload_n G dX9_print_83 0 rfl (tk_gr G kX9 dX9_print_84 wF_X9_9 k0 gR_9_0 (tk_bipush G dX9_print_87 cB_80 (tk_iload_n G dX9_print_89 1 rfl (tk_iadd G dX9_print_90 k))))) ?_
          refine s_iald G dX9_print_91 (kF_9_0 k0) (fun v91 => ?_)
          refine s_v (fun _ k => tk_istore_n (al' := [(3, .int v91), (0, .ref (e_ad E a0)), (1, .int a1), (2, .int a2)]) G dX9_print_92 (by decide) rfl (tk_aload_n G dX9_print_93 1 rfl (tk_gr G kX9 dX9_print_94 wF_X9_9 k0 gR_9_0 (tk_bipush G dX9_print_97 cB_80 (tk_iload_n G dX9_print_99 2 rfl (tk_iadd G dX9_print_100 (tk_iload_n G dX9_print_101 3 rfl k))))))) ?_
          refine s_iast G dX9_print_102 (kF_9_0 k0) (fun h102 => ?_)
          refine s_v (fun _ k => tk_iload_n G dX9_print_103 0 rfl k) ?_
          exact s_iret G dX9_print_104
        refine s_sub [1, 2, 3, 0] (al' := [(0, .ref (e_ad E a0)), (1, .int a1), (2, .int a2), (3, .int a2)]) rfl ?_
        unfold f_X9_print_L50
        refine s_lp1 (al := fun y50_3 => [(0, .ref (e_ad E a0)), (1, .int a1), (2, .int a2), (3, .int y50_3)]) (fun kk50 hL50 g50 y50_3 => ?_) _ _ _
        refine s_v (fun _ k => tk_iload_n G dX9_print_50 3 rfl k) ?_
        refine s_if_lt (tgt := 79) G dX9_print_51 (by decide) (fun q51 => ?_) (fun q51 => ?_)
        ·
          refine s_sub [0, 1, 2] (al' := [(0, .ref (e_ad E a0)), (1, .int a1), (2, .int a2)]) rfl ?_
          exact hX79 _
        ·
          refine s_v (fun _ k => tk_iload_n G dX9_print_54 3 rfl (tk_iload_n G dX9_print_55 1 rfl k)) ?_
          refine s_icmp_ne (tgt := 66) G dX9_print_56 (by decide) (fun q56 => ?_) (fun q56 => ?_)
          ·
            refine s_sub [0] (al' := [(0, .ref (e_ad E a0))]) rfl ?_
            exact hX59 _
          ·
            refine s_v (fun _ k => tk_aload_n G dX9_print_66 0 rfl (tk_gr G kX9 dX9_print_67 wF_X9_9 k0 gR_9_0 (tk_bipush G dX9_print_70 cB_80 (tk_iload_n G dX9_print_72 3 rfl (tk_iadd G dX9_print_73 k))))) ?_
            refine s_iald G dX9_print_74 (kF_9_0 k0) (fun v74 => ?_)
            refine s_v (fun _ k => tk_istore_n (al' := [(3, .int v74), (0, .ref (e_ad E a0)), (1, .int a1), (2, .int a2)]) G dX9_print_75 (by decide) rfl (tk_goto (tgt := 50) G dX9_print_76 (by decide) k)) ?_
            refine s_sub [1, 2, 3, 0] (al' := [(0, .ref (e_ad E a0)), (1, .int a1), (2, .int a2), (3, .int v74)]) rfl ?_
            exact hL50 _ _
      ·
        refine s_v (fun _ k => tk_aload_n G dX9_print_41 0 rfl (tk_ldc G dX9_print_42 wK_X9_74 k)) ?_
        refine s_callVI (As := [.int (-100004)]) G dX9_print_44 wY_X9_finding wM_X9_58 wI_X9_finding wS_X9_finding (tk_rm hR (by decide) (by decide)) kX9 k0 (by decide) (c_X9_finding E g28 a0 (-100004) k0) rfl rfl (Nat.le_of_ble_eq_true rfl) ⟨Nat.zero_le _, Nat.zero_le _⟩ (fun x44 => ?_)
        exact s_iret G dX9_print_47
    refine s_icmp_eq (tgt := 28) G dX9_print_10 (by decide) (fun q10 => ?_) (fun q10 => ?_)
    ·
      exact hJ28 _
    ·
      refine s_v (fun _ k => tk_aload_n G dX9_print_13 0 rfl (tk_iload_n G dX9_print_14 2 rfl k)) ?_
      refine s_callVI (As := [.int a2]) G dX9_print_15 wY_X9_isTale wM_X9_71 wI_X9_isTale wS_X9_isTale (tk_rm hR (by decide) (by decide)) kX9 k0 (by decide) (c_X9_isTale E x2.2 a0 a2 k0) rfl rfl (Nat.le_of_ble_eq_true rfl) ⟨Nat.zero_le _, Nat.zero_le _⟩ (fun x15 => ?_)
      refine s_if_ne (tgt := 28) G dX9_print_18 (by decide) (fun q18 => ?_) (fun q18 => ?_)
      ·
        refine s_sub [0] (al' := [(0, .ref (e_ad E a0))]) rfl ?_
        exact hJ21 _
      ·
        exact hJ28 _
theorem c_X9_print (E : tkE) (h : tkH) (a0 : Nat) (a1 : Int32) (a2 : Int32) (k0 : kd a0 = 12) : ∀ x, f_X9_print h a0 a1 a2 = some x → tkM E yX9_print cX9_print 4 (some .int) 2 tkF [.ref (e_ad E a0), .int a1, .int a2] h (some (.int x.1)) x.2 := fun x hx => tkM_of (by decide) (Nat.le_of_ble_eq_true rfl) (fun _ hR G => w_X9_print hR G h a0 a1 a2 k0 x hx)
set_option maxRecDepth 100000 in
set_option maxHeartbeats 4000000 in
theorem w_X9_put {E : tkE} {X : tkX} (hR : x_R X = tkR 2) (G : tkG E X cX9_put 5 RX9 (some .int)) (h : tkH) (a0 : Nat) (a1 : Int32) (a2 : Int32) (a3 : Int32) (k0 : kd a0 = 12) : tkS E X 5 0 0 (tkZi E X) 0 [(0, .ref (e_ad E a0)), (1, .int a1), (2, .int a2), (3, .int a3)] [] h (f_X9_put h a0 a1 a2 a3) := by
  unfold f_X9_put
  refine s_v (fun _ k => tk_iload_n G dX9_put_0 1 rfl k) ?_
  refine s_callSI (As := [.int a1]) G dX9_put_1 wY_X9_isSheet wM_X9_232 wI_X9_isSheet (tk_rm hR (by decide) (by decide)) (c_X9_isSheet E h a1) rfl rfl (Nat.le_of_ble_eq_true rfl) ⟨Nat.zero_le _, Nat.zero_le _⟩ (fun x1 => ?_)
  refine s_if_ne (tgt := 14) G dX9_put_4 (by decide) (fun q4 => ?_) (fun q4 => ?_)
  ·
    refine s_v (fun _ k => tk_aload_n G dX9_put_7 0 rfl (tk_ldc G dX9_put_8 wK_X9_66 k)) ?_
    refine s_callVI (As := [.int (-100001)]) G dX9_put_10 wY_X9_finding wM_X9_58 wI_X9_finding wS_X9_finding (tk_rm hR (by decide) (by decide)) kX9 k0 (by decide) (c_X9_finding E x1.2 a0 (-100001) k0) rfl rfl (Nat.le_of_ble_eq_true rfl) ⟨Nat.zero_le _, Nat.zero_le _⟩ (fun x10 => ?_)
    exact s_iret G dX9_put_13
  ·
    refine s_v (fun _ k => tk_aload_n G dX9_put_14 0 rfl (tk_gr G kX9 dX9_put_15 wF_X9_16 k0 gR_9_4 (tk_iload_n G dX9_put_18 1 rfl k))) ?_
    refine s_iald G dX9_put_19 (kF_9_4 k0) (fun v19 => ?_)
    refine s_if_ne (tgt := 30) G dX9_put_20 (by decide) (fun q20 => ?_) (fun q20 => ?_)
    ·
      refine s_v (fun _ k => tk_aload_n G dX9_put_23 0 rfl (tk_ldc G dX9_put_24 wK_X9_235 k)) ?_
      refine s_callVI (As := [.int (-100002)]) G dX9_put_26 wY_X9_finding wM_X9_58 wI_X9_finding wS_X9_finding (tk_rm hR (by decide) (by decide)) kX9 k0 (by decide) (c_X9_finding E x1.2 a0 (-100002) k0) rfl rfl (Nat.le_of_ble_eq_true rfl) ⟨Nat.zero_le _, Nat.zero_le _⟩ (fun x26 => ?_)
      exact s_iret G dX9_put_29
    ·
      refine s_v (fun _ k => tk_iload_n G dX9_put_30 2 rfl (tk_iconst G dX9_put_31 cI_0 (tk_aload_n G dX9_put_32 0 rfl (tk_gr G kX9 dX9_put_33 wF_X9_19 k0 gR_9_5 (tk_iload_n G dX9_put_36 1 rfl k))))) ?_
      refine s_iald G dX9_put_37 (kF_9_5 k0) (fun v37 => ?_)
      refine s_v (fun _ k => tk_iconst G dX9_put_38 cI_1 (tk_isub G dX9_put_39 k)) ?_
      refine s_callSI (As := [.int a2, .int 0, .int (v37 - 1)]) G dX9_put_40 wY_X9_within wM_X9_50 wI_X9_within (tk_rm hR (by decide) (by decide)) (c_X9_within E x1.2 a2 0 (v37 - 1)) rfl rfl (Nat.le_of_ble_eq_true rfl) ⟨Nat.zero_le _, Nat.zero_le _⟩ (fun x40 => ?_)
      refine s_if_ne (tgt := 53) G dX9_put_43 (by decide) (fun q43 => ?_) (fun q43 => ?_)
      ·
        refine s_v (fun _ k => tk_aload_n G dX9_put_46 0 rfl (tk_ldc G dX9_put_47 wK_X9_66 k)) ?_
        refine s_callVI (As := [.int (-100001)]) G dX9_put_49 wY_X9_finding wM_X9_58 wI_X9_finding wS_X9_finding (tk_rm hR (by decide) (by decide)) kX9 k0 (by decide) (c_X9_finding E x40.2 a0 (-100001) k0) rfl rfl (Nat.le_of_ble_eq_true rfl) ⟨Nat.zero_le _, Nat.zero_le _⟩ (fun x49 => ?_)
        exact s_iret G dX9_put_52
      ·
        refine s_v (fun _ k => tk_bipush G dX9_put_53 cB_32 (tk_aload_n G dX9_put_55 0 rfl (tk_gr G kX9 dX9_put_56 wF_X9_16 k0 gR_9_4 (tk_iload_n G dX9_put_59 1 rfl k)))) ?_
        refine s_iald G dX9_put_60 (kF_9_4 k0) (fun v60 => ?_)
        refine s_v (fun _ k => tk_isub G dX9_put_61 (tk_istore (al' := [(4, .int (32 - v60)), (0, .ref (e_ad E a0)), (1, .int a1), (2, .int a2), (3, .int a3)]) G dX9_put_62 (by decide) rfl (tk_aload_n G dX9_put_64 1 rfl (tk_gr G kX9 dX9_put_65 wF_X9_22 k0 gR_9_6 (tk_bipush G dX9_put_68 cB_30 (tk_iload_n G dX9_put_70 2 rfl (tk_imul G dX9_put_71 (tk_iload_n G dX9_put_72 3 rfl (tk_iadd G dX9_put_73 (tk_iload_n G dX9_put_74 4 rfl (tk_iload G dX9_put_75 0 rfl (tk_ishl G dX9_put_77 (tk_iload G dX9_put_78 0 rfl (tk_ishr G dX9_put_80 k)))))))))))))) ?_
        refine s_iast G dX9_put_81 (kF_9_6 k0) (fun h81 => ?_)
        refine s_v (fun _ k => tk_iconst G dX9_put_82 cI_0 k) ?_
        exact s_iret G dX9_put_83
theorem c_X9_put (E : tkE) (h : tkH) (a0 : Nat) (a1 : Int32) (a2 : Int32) (a3 : Int32) (k0 : kd a0 = 12) : ∀ x, f_X9_put h a0 a1 a2 a3 = some x → tkM E yX9_put cX9_put 5 (some .int) 2 tkF [.ref (e_ad E a0), .int a1, .int a2, .int a3] h (some (.int x.1)) x.2 := fun x hx => tkM_of (by decide) (Nat.le_of_ble_eq_true rfl) (fun _ hR G => w_X9_put hR G h a0 a1 a2 a3 k0 x hx)
set_option maxRecDepth 100000 in
set_option maxHeartbeats 4000000 in
theorem w_X9_recode {E : tkE} {X : tkX} (hR : x_R X = tkR 2) (G : tkG E X cX9_recode 6 RX9 (some .int)) (h : tkH) (a0 : Nat) (a1 : Int32) (a2 : Int32) (k0 : kd a0 = 12) : tkS E X 6 0 0 (tkZi E X) 0 [(0, .ref (e_ad E a0)), (1, .int a1), (2, .int a2)] [] h (f_X9_recode h a0 a1 a2) := by
  unfold f_X9_recode
  refine s_v (fun _ k => tk_iload_n G dX9_recode_0 1 rfl k) ?_
  refine s_callSI (As := [.int a1]) G dX9_recode_1 wY_X9_isMotif wM_X9_75 wI_X9_isMotif (tk_rm hR (by decide) (by decide)) (c_X9_isMotif E h a1) rfl rfl (Nat.le_of_ble_eq_true rfl) ⟨Nat.zero_le _, Nat.zero_le _⟩ (fun x1 => ?_)
  have hJ14 : ∀ (g14 : tkH), tkS E X 6 0 0 (tkZi E X) 14 [(0, .ref (e_ad E a0))] [] g14 (f_X9_recode_J14 a0 g14) := by
    intro g14
    unfold f_X9_recode_J14
    refine s_v (fun _ k => tk_aload_n G dX9_recode_14 0 rfl (tk_ldc G dX9_recode_15 wK_X9_66 k)) ?_
    refine s_callVI (As := [.int (-100001)]) G dX9_recode_17 wY_X9_finding wM_X9_58 wI_X9_finding wS_X9_finding (tk_rm hR (by decide) (by decide)) kX9 k0 (by decide) (c_X9_finding E g14 a0 (-100001) k0) rfl rfl (Nat.le_of_ble_eq_true rfl) ⟨Nat.zero_le _, Nat.zero_le _⟩ (fun x17 => ?_)
    exact s_iret G dX9_recode_20
  refine s_if_eq (tgt := 14) G dX9_recode_4 (by decide) (fun q4 => ?_) (fun q4 => ?_)
  ·
    refine s_sub [0] (al' := [(0, .ref (e_ad E a0))]) rfl ?_
    exact hJ14 _
  ·
    refine s_v (fun _ k => tk_iload_n G dX9_recode_7 2 rfl k) ?_
    refine s_callSI (As := [.int a2]) G dX9_recode_8 wY_X9_isMotif wM_X9_75 wI_X9_isMotif (tk_rm hR (by decide) (by decide)) (c_X9_isMotif E x1.2 a2) rfl rfl (Nat.le_of_ble_eq_true rfl) ⟨Nat.zero_le _, Nat.zero_le _⟩ (fun x8 => ?_)
    refine s_if_ne (tgt := 21) G dX9_recode_11 (by decide) (fun q11 => ?_) (fun q11 => ?_)
    ·
      refine s_sub [0] (al' := [(0, .ref (e_ad E a0))]) rfl ?_
      exact hJ14 _
    ·
      refine s_v (fun _ k => tk_aload_n G dX9_recode_21 0 rfl k) ?_
      refine s_callVV (As := []) G dX9_recode_22 wY_X9_keep wM_X9_68 wI_X9_keep wS_X9_keep (tk_rm hR (by decide) (by decide)) kX9 k0 (by decide) (c_X9_keep E x8.2 a0 k0) rfl rfl (Nat.le_of_ble_eq_true rfl) ⟨Nat.zero_le _, Nat.zero_le _⟩ (fun x22 => ?_)
      refine s_v (fun _ k => tk_iconst G dX9_recode_25 cI_0 (tk_istore_n (al' := [(3, .int 0), (0, .ref (e_ad E a0)), (1, .int a1), (2, .int a2)]) G dX9_recode_26 (by decide) rfl (tk_iconst G dX9_recode_27 cI_0 (tk_istore (al' := [(4, .int 0), (3, .int 0), (0, .ref (e_ad E a0)), (1, .int a1), (2, .int a2)]) G dX9_recode_28 (by decide) rfl k)))) ?_
      refine s_sub [2, 3, 4, 1, 0] (al' := [(0, .ref (e_ad E a0)), (1, .int a1), (2, .int a2), (3, .int 0), (4, .int 0)]) rfl ?_
      unfold f_X9_recode_L30
      refine s_lp2 (al := fun y30_3 y30_4 => [(0, .ref (e_ad E a0)), (1, .int a1), (2, .int a2), (3, .int y30_3), (4, .int y30_4)]) (fun kk30 hL30 g30 y30_3 y30_4 => ?_) _ _ _ _
      refine s_v (fun _ k => tk_iload G dX9_recode_30 4 rfl (tk_aload_n G dX9_recode_32 0 rfl (tk_gr G kX9 dX9_recode_33 wF_X9_9 k0 gR_9_0 (tk_iconst G dX9_recode_36 cI_0 k)))) ?_
      refine s_iald G dX9_recode_37 (kF_9_0 k0) (fun v37 => ?_)
      refine s_icmp_ge (tgt := 114) G dX9_recode_38 (by decide) (fun q38 => ?_) (fun q38 => ?_)
      ·
        refine s_v (fun _ k => tk_iload_n G dX9_recode_114 3 rfl k) ?_
        exact s_iret G dX9_recode_115
      ·
        refine s_v (fun _ k => tk_iconst G dX9_recode_41 cI_0 (tk_istore (al' := [(5, .int 0), (0, .ref (e_ad E a0)), (1, .int a1), (2, .int a2), (3, .int y30_3), (4, .int y30_4)]) G dX9_recode_42 (by decide) rfl k)) ?_
        have hX108 : ∀ (gz108 : tkH) (z108_3 : Int32), tkS E X 6 0 0 (tkZi E X) 108 [(0, .ref (e_ad E a0)), (1, .int a1), (2, .int a2), (3, .int z108_3), (4, .int y30_4)] [] gz108 (kk30 gz108 z108_3 (y30_4 + 1)) := by
          intro gz108 z108_3
          refine s_v (fun _ k => tk_iinc (al' := [(4, .int (y30_4 + 1)), (0, .ref (e_ad E a0)), (1, .int a1), (2, .int a2), (3, .int z108_3)]) G dX9_recode_108 4 rfl (ci_1 _) (by decide) rfl (tk_goto (tgt := 30) G dX9_recode_111 (by decide) k)) ?_
          refine s_sub [1, 2, 3, 4, 0] (al' := [(0, .ref (e_ad E a0)), (1, .int a1), (2, .int a2), (3, .int z108_3), (4, .int (y30_4 + 1))]) rfl ?_
          exact hL30 _ _ _
        refine s_sub [1, 2, 3, 4, 5, 0] (al' := [(0, .ref (e_ad E a0)), (1, .int a1), (2, .int a2), (3, .int y30_3), (4, .int y30_4), (5, .int 0)]) rfl ?_
        unfold f_X9_recode_L44
        refine s_lp2 (al := fun y44_3 y44_5 => [(0, .ref (e_ad E a0)), (1, .int a1), (2, .int a2), (3, .int y44_3), (4, .int y30_4), (5, .int y44_5)]) (fun kk44 hL44 g44 y44_3 y44_5 => ?_) _ _ _ _
        refine s_v (fun _ k => tk_iload G dX9_recode_44 5 rfl (tk_aload_n G dX9_recode_46 0 rfl (tk_gr G kX9 dX9_recode_47 wF_X9_9 k0 gR_9_0 (tk_bipush G dX9_recode_50 cB_70 (tk_iload G dX9_recode_52 4 rfl (tk_iadd G dX9_recode_54 k)))))) ?_
        refine s_iald G dX9_recode_55 (kF_9_0 k0) (fun v55 => ?_)
        refine s_icmp_ge (tgt := 108) G dX9_recode_56 (by decide) (fun q56 => ?_) (fun q56 => ?_)
        ·
          refine s_sub [0, 1, 2, 3, 4] (al' := [(0, .ref (e_ad E a0)), (1, .int a1), (2, .int a2), (3, .int y44_3), (4, .int y30_4)]) rfl ?_
          exact hX108 _ _
        ·
          refine s_v (fun _ k => tk_aload_n G dX9_recode_59 0 rfl (tk_iload G dX9_recode_60 4 rfl (tk_iload G dX9_recode_62 5 rfl (tk_iconst G dX9_recode_64 cI_0 k)))) ?_
          refine s_callVI (As := [.int y30_4, .int y44_5, .int 0]) G dX9_recode_65 wY_X9_stepOf wM_X9_89 wI_X9_stepOf wS_X9_stepOf (tk_rm hR (by decide) (by decide)) kX9 k0 (by decide) (c_X9_stepOf E g44 a0 y30_4 y44_5 0 k0) rfl rfl (Nat.le_of_ble_eq_true rfl) ⟨Nat.zero_le _, Nat.zero_le _⟩ (fun x65 => ?_)
          refine s_v (fun _ k => tk_iload_n G dX9_recode_68 1 rfl k) ?_
          refine s_icmp_ne (tgt := 102) G dX9_recode_69 (by decide) (fun q69 => ?_) (fun q69 => ?_)
          ·
            refine s_v (fun _ k => tk_aload_n G dX9_recode_72 0 rfl (tk_iload G dX9_recode_73 4 rfl (tk_iload G dX9_recode_75 5 rfl (tk_iload_n G dX9_recode_77 2 rfl (tk_aload_n G dX9_recode_78 0 rfl (tk_iload G dX9_recode_79 4 rfl (tk_iload G dX9_recode_81 5 rfl (tk_iconst G dX9_recode_83 cI_1 k)))))))) ?_
            refine s_callVI (As := [.int y30_4, .int y44_5, .int 1]) G dX9_recode_84 wY_X9_stepOf wM_X9_89 wI_X9_stepOf wS_X9_stepOf (tk_rm hR (by decide) (by decide)) kX9 k0 (by decide) (c_X9_stepOf E x65.2 a0 y30_4 y44_5 1 k0) rfl rfl (Nat.le_of_ble_eq_true rfl) ⟨Nat.zero_le _, Nat.zero_le _⟩ (fun x84 => ?_)
            refine s_v (fun _ k => tk_aload_n G dX9_recode_87 0 rfl (tk_iload G dX9_recode_88 4 rfl (tk_iload G dX9_recode_90 5 rfl (tk_iconst G dX9_recode_92 cI_2 k)))) ?_
            refine s_callVI (As := [.int y30_4, .int y44_5, .int 2]) G dX9_recode_93 wY_X9_stepOf wM_X9_89 wI_X9_stepOf wS_X9_stepOf (tk_rm hR (by decide) (by decide)) kX9 k0 (by decide) (c_X9_stepOf E x84.2 a0 y30_4 y44_5 2 k0) rfl rfl (Nat.le_of_ble_eq_true rfl) ⟨Nat.zero_le _, Nat.zero_le _⟩ (fun x93 => ?_)
            refine s_callVV (As := [.int y30_4, .int y44_5, .int a2, .int x84.1, .int x93.1]) G dX9_recode_96 wY_X9_setStep wM_X9_81 wI_X9_setStep wS_X9_setStep (tk_rm hR (by decide) (by decide)) kX9 k0 (by decide) (c_X9_setStep E x93.2 a0 y30_4 y44_5 a2 x84.1 x93.1 k0) rfl rfl (Nat.le_of_ble_eq_true rfl) ⟨Nat.zero_le _, Nat.zero_le _⟩ (fun x96 => ?_)
            refine s_v (fun _ k => tk_iinc (al' := [(3, .int (y44_3 + 1)), (0, .ref (e_ad E a0)), (1, .int a1), (2, .int a2), (4, .int y30_4), (5, .int y44_5)]) G dX9_recode_99 3 rfl (ci_1 _) (by decide) rfl (tk_iinc (al' := [(5, .int (y44_5 + 1)), (3, .int (y44_3 + 1)), (0, .ref (e_ad E a0)), (1, .int a1), (2, .int a2), (4, .int y30_4)]) G dX9_recode_102 5 rfl (ci_1 _) (by decide) rfl (tk_goto (tgt := 44) G dX9_recode_105 (by decide) k))) ?_
            refine s_sub [2, 3, 4, 1, 5, 0] (al' := [(0, .ref (e_ad E a0)), (1, .int a1), (2, .int a2), (3, .int (y44_3 + 1)), (4, .int y30_4), (5, .int (y44_5 + 1))]) rfl ?_
            exact hL44 _ _ _
          ·
            refine s_v (fun _ k => tk_iinc (al' := [(5, .int (y44_5 + 1)), (0, .ref (e_ad E a0)), (1, .int a1), (2, .int a2), (3, .int y44_3), (4, .int y30_4)]) G dX9_recode_102 5 rfl (ci_1 _) (by decide) rfl (tk_goto (tgt := 44) G dX9_recode_105 (by decide) k)) ?_
            refine s_sub [1, 2, 3, 4, 5, 0] (al' := [(0, .ref (e_ad E a0)), (1, .int a1), (2, .int a2), (3, .int y44_3), (4, .int y30_4), (5, .int (y44_5 + 1))]) rfl ?_
            exact hL44 _ _ _
theorem c_X9_recode (E : tkE) (h : tkH) (a0 : Nat) (a1 : Int32) (a2 : Int32) (k0 : kd a0 = 12) : ∀ x, f_X9_recode h a0 a1 a2 = some x → tkM E yX9_recode cX9_recode 6 (some .int) 2 tkF [.ref (e_ad E a0), .int a1, .int a2] h (some (.int x.1)) x.2 := fun x hx => tkM_of (by decide) (Nat.le_of_ble_eq_true rfl) (fun _ hR G => w_X9_recode hR G h a0 a1 a2 k0 x hx)
set_option maxRecDepth 100000 in
set_option maxHeartbeats 4000000 in
theorem w_X9_same {E : tkE} {X : tkX} (hR : x_R X = tkR 2) (G : tkG E X cX9_same 6 RX9 (some .int)) (h : tkH) (a0 : Nat) (a1 : Int32) (a2 : Int32) (a3 : Int32) (a4 : Int32) (k0 : kd a0 = 12) : tkS E X 6 0 0 (tkZi E X) 0 [(0, .ref (e_ad E a0)), (1, .int a1), (2, .int a2), (3, .int a3), (4, .int a4)] [] h (f_X9_same h a0 a1 a2 a3 a4) := by
  unfold f_X9_same
  refine s_v (fun _ k => tk_iconst G dX9_same_0 cI_0 (tk_istore (al' := [(5, .int 0), (0, .ref (e_ad E a0)), (1, .int a1), (2, .int a2), (3, .int a3), (4, .int a4)]) G dX9_same_1 (by decide) rfl k)) ?_
  refine s_sub [1, 2, 3, 4, 5, 0] (al' := [(0, .ref (e_ad E a0)), (1, .int a1), (2, .int a2), (3, .int a3), (4, .int a4), (5, .int 0)]) rfl ?_
  unfold f_X9_same_L3
  refine s_lp1 (al := fun y3_5 => [(0, .ref (e_ad E a0)), (1, .int a1), (2, .int a2), (3, .int a3), (4, .int a4), (5, .int y3_5)]) (fun kk3 hL3 g3 y3_5 => ?_) _ _ _
  refine s_v (fun _ k => tk_iload_n G dX9_same_3 2 rfl (tk_iload G dX9_same_4 5 rfl (tk_iadd G dX9_same_6 (tk_aload_n G dX9_same_7 0 rfl (tk_gr G kX9 dX9_same_8 wF_X9_9 k0 gR_9_0 (tk_bipush G dX9_same_11 cB_70 (tk_iload_n G dX9_same_13 1 rfl (tk_iadd G dX9_same_14 k)))))))) ?_
  refine s_iald G dX9_same_15 (kF_9_0 k0) (fun v15 => ?_)
  refine s_icmp_ge (tgt := 60) G dX9_same_16 (by decide) (fun q16 => ?_) (fun q16 => ?_)
  ·
    refine s_v (fun _ k => tk_iload G dX9_same_60 5 rfl k) ?_
    exact s_iret G dX9_same_62
  ·
    refine s_v (fun _ k => tk_iload G dX9_same_19 4 rfl (tk_iload G dX9_same_21 5 rfl (tk_iadd G dX9_same_23 (tk_aload_n G dX9_same_24 0 rfl (tk_gr G kX9 dX9_same_25 wF_X9_9 k0 gR_9_0 (tk_bipush G dX9_same_28 cB_70 (tk_iload_n G dX9_same_30 3 rfl (tk_iadd G dX9_same_31 k)))))))) ?_
    refine s_iald G dX9_same_32 (kF_9_0 k0) (fun v32 => ?_)
    refine s_icmp_ge (tgt := 60) G dX9_same_33 (by decide) (fun q33 => ?_) (fun q33 => ?_)
    ·
      refine s_v (fun _ k => tk_iload G dX9_same_60 5 rfl k) ?_
      exact s_iret G dX9_same_62
    ·
      refine s_v (fun _ k => tk_aload_n G dX9_same_36 0 rfl (tk_iload_n G dX9_same_37 1 rfl (tk_iload_n G dX9_same_38 2 rfl (tk_iload G dX9_same_39 5 rfl (tk_iadd G dX9_same_41 (tk_iload_n G dX9_same_42 3 rfl (tk_iload G dX9_same_43 4 rfl (tk_iload G dX9_same_45 5 rfl (tk_iadd G dX9_same_47 k))))))))) ?_
      refine s_callVI (As := [.int a1, .int (a2 + y3_5), .int a3, .int (a4 + y3_5)]) G dX9_same_48 wY_X9_isSame wM_X9_205 wI_X9_isSame wS_X9_isSame (tk_rm hR (by decide) (by decide)) kX9 k0 (by decide) (c_X9_isSame E g3 a0 a1 (a2 + y3_5) a3 (a4 + y3_5) k0) rfl rfl (Nat.le_of_ble_eq_true rfl) ⟨Nat.zero_le _, Nat.zero_le _⟩ (fun x48 => ?_)
      refine s_if_eq (tgt := 60) G dX9_same_51 (by decide) (fun q51 => ?_) (fun q51 => ?_)
      ·
        refine s_v (fun _ k => tk_iload G dX9_same_60 5 rfl k) ?_
        exact s_iret G dX9_same_62
      ·
        refine s_v (fun _ k => tk_iinc (al' := [(5, .int (y3_5 + 1)), (0, .ref (e_ad E a0)), (1, .int a1), (2, .int a2), (3, .int a3), (4, .int a4)]) G dX9_same_54 5 rfl (ci_1 _) (by decide) rfl (tk_goto (tgt := 3) G dX9_same_57 (by decide) k)) ?_
        refine s_sub [1, 2, 3, 4, 5, 0] (al' := [(0, .ref (e_ad E a0)), (1, .int a1), (2, .int a2), (3, .int a3), (4, .int a4), (5, .int (y3_5 + 1))]) rfl ?_
        exact hL3 _ _
theorem c_X9_same (E : tkE) (h : tkH) (a0 : Nat) (a1 : Int32) (a2 : Int32) (a3 : Int32) (a4 : Int32) (k0 : kd a0 = 12) : ∀ x, f_X9_same h a0 a1 a2 a3 a4 = some x → tkM E yX9_same cX9_same 6 (some .int) 2 tkF [.ref (e_ad E a0), .int a1, .int a2, .int a3, .int a4] h (some (.int x.1)) x.2 := fun x hx => tkM_of (by decide) (Nat.le_of_ble_eq_true rfl) (fun _ hR G => w_X9_same hR G h a0 a1 a2 a3 a4 k0 x hx)
set_option maxRecDepth 100000 in
set_option maxHeartbeats 4000000 in
theorem w_X9_sheet {E : tkE} {X : tkX} (hR : x_R X = tkR 2) (G : tkG E X cX9_sheet 5 RX9 (some .int)) (h : tkH) (a0 : Nat) (a1 : Int32) (a2 : Int32) (a3 : Int32) (k0 : kd a0 = 12) : tkS E X 5 0 0 (tkZi E X) 0 [(0, .ref (e_ad E a0)), (1, .int a1), (2, .int a2), (3, .int a3)] [] h (f_X9_sheet h a0 a1 a2 a3) := by
  unfold f_X9_sheet
  refine s_v (fun _ k => tk_iload_n G dX9_sheet_0 1 rfl k) ?_
  refine s_callSI (As := [.int a1]) G dX9_sheet_1 wY_X9_isSheet wM_X9_232 wI_X9_isSheet (tk_rm hR (by decide) (by decide)) (c_X9_isSheet E h a1) rfl rfl (Nat.le_of_ble_eq_true rfl) ⟨Nat.zero_le _, Nat.zero_le _⟩ (fun x1 => ?_)
  have hJ29 : ∀ (g29 : tkH), tkS E X 5 0 0 (tkZi E X) 29 [(0, .ref (e_ad E a0))] [] g29 (f_X9_sheet_J29 a0 g29) := by
    intro g29
    unfold f_X9_sheet_J29
    refine s_v (fun _ k => tk_aload_n G dX9_sheet_29 0 rfl (tk_ldc G dX9_sheet_30 wK_X9_66 k)) ?_
    refine s_callVI (As := [.int (-100001)]) G dX9_sheet_32 wY_X9_finding wM_X9_58 wI_X9_finding wS_X9_finding (tk_rm hR (by decide) (by decide)) kX9 k0 (by decide) (c_X9_finding E g29 a0 (-100001) k0) rfl rfl (Nat.le_of_ble_eq_true rfl) ⟨Nat.zero_le _, Nat.zero_le _⟩ (fun x32 => ?_)
    exact s_iret G dX9_sheet_35
  refine s_if_eq (tgt := 29) G dX9_sheet_4 (by decide) (fun q4 => ?_) (fun q4 => ?_)
  ·
    refine s_sub [0] (al' := [(0, .ref (e_ad E a0))]) rfl ?_
    exact hJ29 _
  ·
    refine s_v (fun _ k => tk_iload_n G dX9_sheet_7 2 rfl k) ?_
    have hJ36 : ∀ (g36 : tkH), tkS E X 5 0 0 (tkZi E X) 36 [(0, .ref (e_ad E a0)), (1, .int a1), (2, .int a2), (3, .int a3)] [] g36 (f_X9_sheet_J36 a3 a0 a1 a2 g36) := by
      intro g36
      unfold f_X9_sheet_J36
      refine s_v (fun _ k => tk_iload_n G dX9_sheet_36 3 rfl k) ?_
      refine s_if_ge (tgt := 47) G dX9_sheet_37 (by decide) (fun q37 => ?_) (fun q37 => ?_)
      ·
        refine s_v (fun _ k => tk_iload_n G dX9_sheet_47 3 rfl (tk_bipush G dX9_sheet_48 cB_30 k)) ?_
        refine s_icmp_le (tgt := 60) G dX9_sheet_50 (by decide) (fun q50 => ?_) (fun q50 => ?_)
        ·
          refine s_v (fun _ k => tk_aload_n G dX9_sheet_60 0 rfl (tk_gr G kX9 dX9_sheet_61 wF_X9_16 k0 gR_9_4 (tk_iload_n G dX9_sheet_64 1 rfl (tk_iload_n G dX9_sheet_65 2 rfl k)))) ?_
          refine s_iast G dX9_sheet_66 (kF_9_4 k0) (fun h66 => ?_)
          refine s_v (fun _ k => tk_aload_n G dX9_sheet_67 0 rfl (tk_gr G kX9 dX9_sheet_68 wF_X9_19 k0 gR_9_5 (tk_iload_n G dX9_sheet_71 1 rfl (tk_iload_n G dX9_sheet_72 2 rfl k)))) ?_
          have hJ81 : ∀ (g81 : tkH) (t81_0 : Int32), tkS E X 5 0 0 (tkZi E X) 81 [(0, .ref (e_ad E a0)), (1, .int a1)] [.int t81_0, .int a1, .ref (e_ad E (fld a0 5))] g81 (f_X9_sheet_J81 a0 a1 g81 t81_0) := by
            intro g81 t81_0
            unfold f_X9_sheet_J81
            refine s_iast G dX9_sheet_81 (kF_9_5 k0) (fun h81 => ?_)
            refine s_v (fun _ k => tk_iconst G dX9_sheet_82 cI_0 (tk_istore (al' := [(4, .int 0), (0, .ref (e_ad E a0)), (1, .int a1)]) G dX9_sheet_83 (by decide) rfl k)) ?_
            have hX111 : ∀ (gz111 : tkH), tkS E X 5 0 0 (tkZi E X) 111 [(0, .ref (e_ad E a0)), (1, .int a1)] [] gz111 ((rdI gz111 (fld a0 5) a1).bind fun v116 => some (v116, gz111)) := by
              intro gz111
              refine s_v (fun _ k => tk_aload_n G dX9_sheet_111 0 rfl (tk_gr G kX9 dX9_sheet_112 wF_X9_19 k0 gR_9_5 (tk_iload_n G dX9_sheet_115 1 rfl k))) ?_
              refine s_iald G dX9_sheet_116 (kF_9_5 k0) (fun v116 => ?_)
              exact s_iret G dX9_sheet_117
            refine s_sub [1, 2, 0] (al' := [(0, .ref (e_ad E a0)), (1, .int a1), (4, .int 0)]) rfl ?_
            unfold f_X9_sheet_L85
            refine s_lp1 (al := fun y85_4 => [(0, .ref (e_ad E a0)), (1, .int a1), (4, .int y85_4)]) (fun kk85 hL85 g85 y85_4 => ?_) _ _ _
            refine s_v (fun _ k => tk_iload G dX9_sheet_85 2 rfl (tk_bipush G dX9_sheet_87 cB_30 k)) ?_
            refine s_icmp_ge (tgt := 111) G dX9_sheet_89 (by decide) (fun q89 => ?_) (fun q89 => ?_)
            ·
              refine s_sub [0, 1] (al' := [(0, .ref (e_ad E a0)), (1, .int a1)]) rfl ?_
              exact hX111 _
            ·
              refine s_v (fun _ k => tk_aload_n G dX9_sheet_92 0 rfl (tk_gr G kX9 dX9_sheet_93 wF_X9_22 k0 gR_9_6 (tk_bipush G dX9_sheet_96 cB_30 (tk_iload_n G dX9_sheet_98 1 rfl (tk_imul G dX9_sheet_99 (tk_iload G dX9_sheet_100 2 rfl (tk_iadd G dX9_sheet_102 (tk_iconst G dX9_sheet_103 cI_0 k)))))))) ?_
              refine s_iast G dX9_sheet_104 (kF_9_6 k0) (fun h104 => ?_)
              refine s_v (fun _ k => tk_iinc (al' := [(4, .int (y85_4 + 1)), (0, .ref (e_ad E a0)), (1, .int a1)]) G dX9_sheet_105 2 rfl (ci_1 _) (by decide) rfl (tk_goto (tgt := 85) G dX9_sheet_108 (by decide) k)) ?_
              refine s_sub [1, 2, 0] (al' := [(0, .ref (e_ad E a0)), (1, .int a1), (4, .int (y85_4 + 1))]) rfl ?_
              exact hL85 _ _
          refine s_if_ne (tgt := 80) G dX9_sheet_73 (by decide) (fun q73 => ?_) (fun q73 => ?_)
          ·
            refine s_v (fun _ k => tk_iconst G dX9_sheet_76 cI_0 (tk_goto (tgt := 81) G dX9_sheet_77 (by decide) k)) ?_
            refine s_sub [0, 1] (al' := [(0, .ref (e_ad E a0)), (1, .int a1)]) rfl ?_
            exact hJ81 _ _
          ·
            refine s_v (fun _ k => tk_iload_n G dX9_sheet_80 3 rfl k) ?_
            refine s_sub [0, 1] (al' := [(0, .ref (e_ad E a0)), (1, .int a1)]) rfl ?_
            exact hJ81 _ _
        ·
          refine s_v (fun _ k => tk_aload_n G dX9_sheet_53 0 rfl (tk_ldc G dX9_sheet_54 wK_X9_66 k)) ?_
          refine s_callVI (As := [.int (-100001)]) G dX9_sheet_56 wY_X9_finding wM_X9_58 wI_X9_finding wS_X9_finding (tk_rm hR (by decide) (by decide)) kX9 k0 (by decide) (c_X9_finding E g36 a0 (-100001) k0) rfl rfl (Nat.le_of_ble_eq_true rfl) ⟨Nat.zero_le _, Nat.zero_le _⟩ (fun x56 => ?_)
          exact s_iret G dX9_sheet_59
      ·
        refine s_v (fun _ k => tk_aload_n G dX9_sheet_40 0 rfl (tk_ldc G dX9_sheet_41 wK_X9_103 k)) ?_
        refine s_callVI (As := [.int (-100003)]) G dX9_sheet_43 wY_X9_finding wM_X9_58 wI_X9_finding wS_X9_finding (tk_rm hR (by decide) (by decide)) kX9 k0 (by decide) (c_X9_finding E g36 a0 (-100003) k0) rfl rfl (Nat.le_of_ble_eq_true rfl) ⟨Nat.zero_le _, Nat.zero_le _⟩ (fun x43 => ?_)
        exact s_iret G dX9_sheet_46
    refine s_if_eq (tgt := 36) G dX9_sheet_8 (by decide) (fun q8 => ?_) (fun q8 => ?_)
    ·
      exact hJ36 _
    ·
      refine s_v (fun _ k => tk_iload_n G dX9_sheet_11 2 rfl (tk_bipush G dX9_sheet_12 cB_8 k)) ?_
      refine s_icmp_eq (tgt := 36) G dX9_sheet_14 (by decide) (fun q14 => ?_) (fun q14 => ?_)
      ·
        exact hJ36 _
      ·
        refine s_v (fun _ k => tk_iload_n G dX9_sheet_17 2 rfl (tk_bipush G dX9_sheet_18 cB_16 k)) ?_
        refine s_icmp_eq (tgt := 36) G dX9_sheet_20 (by decide) (fun q20 => ?_) (fun q20 => ?_)
        ·
          exact hJ36 _
        ·
          refine s_v (fun _ k => tk_iload_n G dX9_sheet_23 2 rfl (tk_bipush G dX9_sheet_24 cB_32 k)) ?_
          refine s_icmp_eq (tgt := 36) G dX9_sheet_26 (by decide) (fun q26 => ?_) (fun q26 => ?_)
          ·
            exact hJ36 _
          ·
            refine s_sub [0] (al' := [(0, .ref (e_ad E a0))]) rfl ?_
            exact hJ29 _
theorem c_X9_sheet (E : tkE) (h : tkH) (a0 : Nat) (a1 : Int32) (a2 : Int32) (a3 : Int32) (k0 : kd a0 = 12) : ∀ x, f_X9_sheet h a0 a1 a2 a3 = some x → tkM E yX9_sheet cX9_sheet 5 (some .int) 2 tkF [.ref (e_ad E a0), .int a1, .int a2, .int a3] h (some (.int x.1)) x.2 := fun x hx => tkM_of (by decide) (Nat.le_of_ble_eq_true rfl) (fun _ hR G => w_X9_sheet hR G h a0 a1 a2 a3 k0 x hx)
set_option maxRecDepth 100000 in
set_option maxHeartbeats 4000000 in
theorem w_X9_step {E : tkE} {X : tkX} (hR : x_R X = tkR 2) (G : tkG E X cX9_step 5 RX9 (some .int)) (h : tkH) (a0 : Nat) (a1 : Int32) (a2 : Int32) (a3 : Int32) (a4 : Int32) (k0 : kd a0 = 12) : tkS E X 5 0 0 (tkZi E X) 0 [(0, .ref (e_ad E a0)), (1, .int a1), (2, .int a2), (3, .int a3), (4, .int a4)] [] h (f_X9_step h a0 a1 a2 a3 a4) := by
  unfold f_X9_step
  refine s_v (fun _ k => tk_aload_n G dX9_step_0 0 rfl (tk_iload_n G dX9_step_1 1 rfl k)) ?_
  refine s_callVI (As := [.int a1]) G dX9_step_2 wY_X9_isTale wM_X9_71 wI_X9_isTale wS_X9_isTale (tk_rm hR (by decide) (by decide)) kX9 k0 (by decide) (c_X9_isTale E h a0 a1 k0) rfl rfl (Nat.le_of_ble_eq_true rfl) ⟨Nat.zero_le _, Nat.zero_le _⟩ (fun x2 => ?_)
  have hJ30 : ∀ (g30 : tkH), tkS E X 5 0 0 (tkZi E X) 30 [(0, .ref (e_ad E a0))] [] g30 (f_X9_step_J30 a0 g30) := by
    intro g30
    unfold f_X9_step_J30
    refine s_v (fun _ k => tk_aload_n G dX9_step_30 0 rfl (tk_ldc G dX9_step_31 wK_X9_66 k)) ?_
    refine s_callVI (As := [.int (-100001)]) G dX9_step_33 wY_X9_finding wM_X9_58 wI_X9_finding wS_X9_finding (tk_rm hR (by decide) (by decide)) kX9 k0 (by decide) (c_X9_finding E g30 a0 (-100001) k0) rfl rfl (Nat.le_of_ble_eq_true rfl) ⟨Nat.zero_le _, Nat.zero_le _⟩ (fun x33 => ?_)
    exact s_iret G dX9_step_36
  refine s_if_eq (tgt := 30) G dX9_step_5 (by decide) (fun q5 => ?_) (fun q5 => ?_)
  ·
    refine s_sub [0] (al' := [(0, .ref (e_ad E a0))]) rfl ?_
    exact hJ30 _
  ·
    refine s_v (fun _ k => tk_iload_n G dX9_step_8 2 rfl k) ?_
    refine s_callSI (As := [.int a2]) G dX9_step_9 wY_X9_isMotif wM_X9_75 wI_X9_isMotif (tk_rm hR (by decide) (by decide)) (c_X9_isMotif E x2.2 a2) rfl rfl (Nat.le_of_ble_eq_true rfl) ⟨Nat.zero_le _, Nat.zero_le _⟩ (fun x9 => ?_)
    refine s_if_eq (tgt := 30) G dX9_step_12 (by decide) (fun q12 => ?_) (fun q12 => ?_)
    ·
      refine s_sub [0] (al' := [(0, .ref (e_ad E a0))]) rfl ?_
      exact hJ30 _
    ·
      refine s_v (fun _ k => tk_iload_n G dX9_step_15 3 rfl k) ?_
      refine s_callSI (As := [.int a3]) G dX9_step_16 wY_X9_isRole wM_X9_78 wI_X9_isRole (tk_rm hR (by decide) (by decide)) (c_X9_isRole E x9.2 a3) rfl rfl (Nat.le_of_ble_eq_true rfl) ⟨Nat.zero_le _, Nat.zero_le _⟩ (fun x16 => ?_)
      refine s_if_eq (tgt := 30) G dX9_step_19 (by decide) (fun q19 => ?_) (fun q19 => ?_)
      ·
        refine s_sub [0] (al' := [(0, .ref (e_ad E a0))]) rfl ?_
        exact hJ30 _
      ·
        refine s_v (fun _ k => tk_iload G dX9_step_22 4 rfl k) ?_
        refine s_callSI (As := [.int a4]) G dX9_step_24 wY_X9_isRole wM_X9_78 wI_X9_isRole (tk_rm hR (by decide) (by decide)) (c_X9_isRole E x16.2 a4) rfl rfl (Nat.le_of_ble_eq_true rfl) ⟨Nat.zero_le _, Nat.zero_le _⟩ (fun x24 => ?_)
        refine s_if_ne (tgt := 37) G dX9_step_27 (by decide) (fun q27 => ?_) (fun q27 => ?_)
        ·
          refine s_sub [0] (al' := [(0, .ref (e_ad E a0))]) rfl ?_
          exact hJ30 _
        ·
          refine s_v (fun _ k => tk_aload_n G dX9_step_37 0 rfl (tk_gr G kX9 dX9_step_38 wF_X9_9 k0 gR_9_0 (tk_bipush G dX9_step_41 cB_70 (tk_iload_n G dX9_step_43 1 rfl (tk_iadd G dX9_step_44 k))))) ?_
          refine s_iald G dX9_step_45 (kF_9_0 k0) (fun v45 => ?_)
          refine s_v (fun _ k => tk_bipush G dX9_step_46 cB_10 k) ?_
          refine s_icmp_ne (tgt := 58) G dX9_step_48 (by decide) (fun q48 => ?_) (fun q48 => ?_)
          ·
            refine s_v (fun _ k => tk_aload_n G dX9_step_51 0 rfl (tk_ldc G dX9_step_52 wK_X9_67 k)) ?_
            refine s_callVI (As := [.int (-100005)]) G dX9_step_54 wY_X9_finding wM_X9_58 wI_X9_finding wS_X9_finding (tk_rm hR (by decide) (by decide)) kX9 k0 (by decide) (c_X9_finding E x24.2 a0 (-100005) k0) rfl rfl (Nat.le_of_ble_eq_true rfl) ⟨Nat.zero_le _, Nat.zero_le _⟩ (fun x54 => ?_)
            exact s_iret G dX9_step_57
          ·
            refine s_v (fun _ k => tk_aload_n G dX9_step_58 0 rfl k) ?_
            refine s_callVV (As := []) G dX9_step_59 wY_X9_keep wM_X9_68 wI_X9_keep wS_X9_keep (tk_rm hR (by decide) (by decide)) kX9 k0 (by decide) (c_X9_keep E x24.2 a0 k0) rfl rfl (Nat.le_of_ble_eq_true rfl) ⟨Nat.zero_le _, Nat.zero_le _⟩ (fun x59 => ?_)
            refine s_v (fun _ k => tk_aload_n G dX9_step_62 0 rfl (tk_iload_n G dX9_step_63 1 rfl (tk_aload_n G dX9_step_64 0 rfl (tk_gr G kX9 dX9_step_65 wF_X9_9 k0 gR_9_0 (tk_bipush G dX9_step_68 cB_70 (tk_iload_n G dX9_step_70 1 rfl (tk_iadd G dX9_step_71 k))))))) ?_
            refine s_iald G dX9_step_72 (kF_9_0 k0) (fun v72 => ?_)
            refine s_v (fun _ k => tk_iload_n G dX9_step_73 2 rfl (tk_iload_n G dX9_step_74 3 rfl (tk_iload G dX9_step_75 4 rfl k))) ?_
            refine s_callVV (As := [.int a1, .int v72, .int a2, .int a3, .int a4]) G dX9_step_77 wY_X9_setStep wM_X9_81 wI_X9_setStep wS_X9_setStep (tk_rm hR (by decide) (by decide)) kX9 k0 (by decide) (c_X9_setStep E x59 a0 a1 v72 a2 a3 a4 k0) rfl rfl (Nat.le_of_ble_eq_true rfl) ⟨Nat.zero_le _, Nat.zero_le _⟩ (fun x77 => ?_)
            refine s_v (fun _ k => tk_aload_n G dX9_step_80 0 rfl (tk_gr G kX9 dX9_step_81 wF_X9_9 k0 gR_9_0 (tk_bipush G dX9_step_84 cB_70 (tk_iload_n G dX9_step_86 1 rfl (tk_iadd G dX9_step_87 (tk_dup2 G dX9_step_88 rfl rfl k)))))) ?_
            refine s_iald G dX9_step_89 (kF_9_0 k0) (fun v89 => ?_)
            refine s_v (fun _ k => tk_iconst G dX9_step_90 cI_1 (tk_iadd G dX9_step_91 k)) ?_
            refine s_iast G dX9_step_92 (kF_9_0 k0) (fun h92 => ?_)
            refine s_v (fun _ k => tk_aload_n G dX9_step_93 0 rfl (tk_gr G kX9 dX9_step_94 wF_X9_9 k0 gR_9_0 (tk_bipush G dX9_step_97 cB_70 (tk_iload_n G dX9_step_99 1 rfl (tk_iadd G dX9_step_100 k))))) ?_
            refine s_iald G dX9_step_101 (kF_9_0 k0) (fun v101 => ?_)
            exact s_iret G dX9_step_102
theorem c_X9_step (E : tkE) (h : tkH) (a0 : Nat) (a1 : Int32) (a2 : Int32) (a3 : Int32) (a4 : Int32) (k0 : kd a0 = 12) : ∀ x, f_X9_step h a0 a1 a2 a3 a4 = some x → tkM E yX9_step cX9_step 5 (some .int) 2 tkF [.ref (e_ad E a0), .int a1, .int a2, .int a3, .int a4] h (some (.int x.1)) x.2 := fun x hx => tkM_of (by decide) (Nat.le_of_ble_eq_true rfl) (fun _ hR G => w_X9_step hR G h a0 a1 a2 a3 a4 k0 x hx)
set_option maxRecDepth 100000 in
set_option maxHeartbeats 4000000 in
theorem w_X9_tale {E : tkE} {X : tkX} (hR : x_R X = tkR 2) (G : tkG E X cX9_tale 5 RX9 (some .int)) (h : tkH) (a0 : Nat) (a1 : Int32) (a2 : Int32) (a3 : Int32) (k0 : kd a0 = 12) : tkS E X 5 0 0 (tkZi E X) 0 [(0, .ref (e_ad E a0)), (1, .int a1), (2, .int a2), (3, .int a3)] [] h (f_X9_tale h a0 a1 a2 a3) := by
  unfold f_X9_tale
  refine s_v (fun _ k => tk_iload_n G dX9_tale_0 1 rfl (tk_iconst G dX9_tale_1 cI_0 (tk_iconst G dX9_tale_2 cI_3 k))) ?_
  refine s_callSI (As := [.int a1, .int 0, .int 3]) G dX9_tale_3 wY_X9_within wM_X9_50 wI_X9_within (tk_rm hR (by decide) (by decide)) (c_X9_within E h a1 0 3) rfl rfl (Nat.le_of_ble_eq_true rfl) ⟨Nat.zero_le _, Nat.zero_le _⟩ (fun x3 => ?_)
  have hJ27 : ∀ (g27 : tkH), tkS E X 5 0 0 (tkZi E X) 27 [(0, .ref (e_ad E a0))] [] g27 (f_X9_tale_J27 a0 g27) := by
    intro g27
    unfold f_X9_tale_J27
    refine s_v (fun _ k => tk_aload_n G dX9_tale_27 0 rfl (tk_ldc G dX9_tale_28 wK_X9_66 k)) ?_
    refine s_callVI (As := [.int (-100001)]) G dX9_tale_30 wY_X9_finding wM_X9_58 wI_X9_finding wS_X9_finding (tk_rm hR (by decide) (by decide)) kX9 k0 (by decide) (c_X9_finding E g27 a0 (-100001) k0) rfl rfl (Nat.le_of_ble_eq_true rfl) ⟨Nat.zero_le _, Nat.zero_le _⟩ (fun x30 => ?_)
    exact s_iret G dX9_tale_33
  refine s_if_eq (tgt := 27) G dX9_tale_6 (by decide) (fun q6 => ?_) (fun q6 => ?_)
  ·
    refine s_sub [0] (al' := [(0, .ref (e_ad E a0))]) rfl ?_
    exact hJ27 _
  ·
    refine s_v (fun _ k => tk_iload_n G dX9_tale_9 2 rfl k) ?_
    refine s_callSI (As := [.int a2]) G dX9_tale_10 wY_X9_isPlace wM_X9_62 wI_X9_isPlace (tk_rm hR (by decide) (by decide)) (c_X9_isPlace E x3.2 a2) rfl rfl (Nat.le_of_ble_eq_true rfl) ⟨Nat.zero_le _, Nat.zero_le _⟩ (fun x10 => ?_)
    refine s_if_eq (tgt := 27) G dX9_tale_13 (by decide) (fun q13 => ?_) (fun q13 => ?_)
    ·
      refine s_sub [0] (al' := [(0, .ref (e_ad E a0))]) rfl ?_
      exact hJ27 _
    ·
      refine s_v (fun _ k => tk_iload_n G dX9_tale_16 3 rfl (tk_iconst G dX9_tale_17 cI_0 (tk_sipush G dX9_tale_18 cS_999 k))) ?_
      refine s_callSI (As := [.int a3, .int 0, .int 999]) G dX9_tale_21 wY_X9_within wM_X9_50 wI_X9_within (tk_rm hR (by decide) (by decide)) (c_X9_within E x10.2 a3 0 999) rfl rfl (Nat.le_of_ble_eq_true rfl) ⟨Nat.zero_le _, Nat.zero_le _⟩ (fun x21 => ?_)
      refine s_if_ne (tgt := 34) G dX9_tale_24 (by decide) (fun q24 => ?_) (fun q24 => ?_)
      ·
        refine s_sub [0] (al' := [(0, .ref (e_ad E a0))]) rfl ?_
        exact hJ27 _
      ·
        refine s_v (fun _ k => tk_aload_n G dX9_tale_34 0 rfl (tk_gr G kX9 dX9_tale_35 wF_X9_9 k0 gR_9_0 (tk_iconst G dX9_tale_38 cI_0 k))) ?_
        refine s_iald G dX9_tale_39 (kF_9_0 k0) (fun v39 => ?_)
        refine s_v (fun _ k => tk_istore (al' := [(4, .int v39), (0, .ref (e_ad E a0)), (1, .int a1), (2, .int a2), (3, .int a3)]) G dX9_tale_40 (by decide) rfl (tk_iload G dX9_tale_42 0 rfl (tk_bipush G dX9_tale_44 cB_10 k))) ?_
        refine s_icmp_ne (tgt := 56) G dX9_tale_46 (by decide) (fun q46 => ?_) (fun q46 => ?_)
        ·
          refine s_v (fun _ k => tk_aload_n G dX9_tale_49 1 rfl (tk_ldc G dX9_tale_50 wK_X9_67 k)) ?_
          refine s_callVI (As := [.int (-100005)]) G dX9_tale_52 wY_X9_finding wM_X9_58 wI_X9_finding wS_X9_finding (tk_rm hR (by decide) (by decide)) kX9 k0 (by decide) (c_X9_finding E x21.2 a0 (-100005) k0) rfl rfl (Nat.le_of_ble_eq_true rfl) ⟨Nat.zero_le _, Nat.zero_le _⟩ (fun x52 => ?_)
          exact s_iret G dX9_tale_55
        ·
          refine s_v (fun _ k => tk_aload_n G dX9_tale_56 1 rfl k) ?_
          refine s_callVV (As := []) G dX9_tale_57 wY_X9_keep wM_X9_68 wI_X9_keep wS_X9_keep (tk_rm hR (by decide) (by decide)) kX9 k0 (by decide) (c_X9_keep E x21.2 a0 k0) rfl rfl (Nat.le_of_ble_eq_true rfl) ⟨Nat.zero_le _, Nat.zero_le _⟩ (fun x57 => ?_)
          refine s_v (fun _ k => tk_aload_n G dX9_tale_60 1 rfl (tk_gr G kX9 dX9_tale_61 wF_X9_9 k0 gR_9_0 (tk_bipush G dX9_tale_64 cB_40 (tk_iload G dX9_tale_66 0 rfl (tk_iadd G dX9_tale_68 (tk_iload_n G dX9_tale_69 2 rfl k)))))) ?_
          refine s_iast G dX9_tale_70 (kF_9_0 k0) (fun h70 => ?_)
          refine s_v (fun _ k => tk_aload_n G dX9_tale_71 1 rfl (tk_gr G kX9 dX9_tale_72 wF_X9_9 k0 gR_9_0 (tk_bipush G dX9_tale_75 cB_50 (tk_iload G dX9_tale_77 0 rfl (tk_iadd G dX9_tale_79 (tk_iload_n G dX9_tale_80 3 rfl k)))))) ?_
          refine s_iast G dX9_tale_81 (kF_9_0 k0) (fun h81 => ?_)
          refine s_v (fun _ k => tk_aload_n G dX9_tale_82 1 rfl (tk_gr G kX9 dX9_tale_83 wF_X9_9 k0 gR_9_0 (tk_bipush G dX9_tale_86 cB_60 (tk_iload G dX9_tale_88 0 rfl (tk_iadd G dX9_tale_90 (tk_iload_n G dX9_tale_91 4 rfl k)))))) ?_
          refine s_iast G dX9_tale_92 (kF_9_0 k0) (fun h92 => ?_)
          refine s_v (fun _ k => tk_aload_n G dX9_tale_93 1 rfl (tk_gr G kX9 dX9_tale_94 wF_X9_9 k0 gR_9_0 (tk_bipush G dX9_tale_97 cB_70 (tk_iload G dX9_tale_99 0 rfl (tk_iadd G dX9_tale_101 (tk_iconst G dX9_tale_102 cI_0 k)))))) ?_
          refine s_iast G dX9_tale_103 (kF_9_0 k0) (fun h103 => ?_)
          refine s_v (fun _ k => tk_aload_n G dX9_tale_104 1 rfl (tk_gr G kX9 dX9_tale_105 wF_X9_9 k0 gR_9_0 (tk_bipush G dX9_tale_108 cB_80 (tk_iload G dX9_tale_110 0 rfl (tk_iadd G dX9_tale_112 (tk_iconst G dX9_tale_113 cI_m1 k)))))) ?_
          refine s_iast G dX9_tale_114 (kF_9_0 k0) (fun h114 => ?_)
          refine s_v (fun _ k => tk_aload_n G dX9_tale_115 1 rfl (tk_gr G kX9 dX9_tale_116 wF_X9_9 k0 gR_9_0 (tk_iconst G dX9_tale_119 cI_0 (tk_dup2 G dX9_tale_120 rfl rfl k)))) ?_
          refine s_iald G dX9_tale_121 (kF_9_0 k0) (fun v121 => ?_)
          refine s_v (fun _ k => tk_iconst G dX9_tale_122 cI_1 (tk_iadd G dX9_tale_123 k)) ?_
          refine s_iast G dX9_tale_124 (kF_9_0 k0) (fun h124 => ?_)
          refine s_v (fun _ k => tk_iload G dX9_tale_125 0 rfl k) ?_
          exact s_iret G dX9_tale_127
theorem c_X9_tale (E : tkE) (h : tkH) (a0 : Nat) (a1 : Int32) (a2 : Int32) (a3 : Int32) (k0 : kd a0 = 12) : ∀ x, f_X9_tale h a0 a1 a2 a3 = some x → tkM E yX9_tale cX9_tale 5 (some .int) 2 tkF [.ref (e_ad E a0), .int a1, .int a2, .int a3] h (some (.int x.1)) x.2 := fun x hx => tkM_of (by decide) (Nat.le_of_ble_eq_true rfl) (fun _ hR G => w_X9_tale hR G h a0 a1 a2 a3 k0 x hx)
set_option maxRecDepth 100000 in
set_option maxHeartbeats 4000000 in
theorem w_X9_unstep {E : tkE} {X : tkX} (hR : x_R X = tkR 2) (G : tkG E X cX9_unstep 2 RX9 (some .int)) (h : tkH) (a0 : Nat) (a1 : Int32) (k0 : kd a0 = 12) : tkS E X 2 0 0 (tkZi E X) 0 [(0, .ref (e_ad E a0)), (1, .int a1)] [] h (f_X9_unstep h a0 a1) := by
  unfold f_X9_unstep
  refine s_v (fun _ k => tk_aload_n G dX9_unstep_0 0 rfl (tk_iload_n G dX9_unstep_1 1 rfl k)) ?_
  refine s_callVI (As := [.int a1]) G dX9_unstep_2 wY_X9_isTale wM_X9_71 wI_X9_isTale wS_X9_isTale (tk_rm hR (by decide) (by decide)) kX9 k0 (by decide) (c_X9_isTale E h a0 a1 k0) rfl rfl (Nat.le_of_ble_eq_true rfl) ⟨Nat.zero_le _, Nat.zero_le _⟩ (fun x2 => ?_)
  refine s_if_ne (tgt := 15) G dX9_unstep_5 (by decide) (fun q5 => ?_) (fun q5 => ?_)
  ·
    refine s_v (fun _ k => tk_aload_n G dX9_unstep_8 0 rfl (tk_ldc G dX9_unstep_9 wK_X9_66 k)) ?_
    refine s_callVI (As := [.int (-100001)]) G dX9_unstep_11 wY_X9_finding wM_X9_58 wI_X9_finding wS_X9_finding (tk_rm hR (by decide) (by decide)) kX9 k0 (by decide) (c_X9_finding E x2.2 a0 (-100001) k0) rfl rfl (Nat.le_of_ble_eq_true rfl) ⟨Nat.zero_le _, Nat.zero_le _⟩ (fun x11 => ?_)
    exact s_iret G dX9_unstep_14
  ·
    refine s_v (fun _ k => tk_aload_n G dX9_unstep_15 0 rfl (tk_gr G kX9 dX9_unstep_16 wF_X9_9 k0 gR_9_0 (tk_bipush G dX9_unstep_19 cB_70 (tk_iload_n G dX9_unstep_21 1 rfl (tk_iadd G dX9_unstep_22 k))))) ?_
    refine s_iald G dX9_unstep_23 (kF_9_0 k0) (fun v23 => ?_)
    refine s_if_ne (tgt := 34) G dX9_unstep_24 (by decide) (fun q24 => ?_) (fun q24 => ?_)
    ·
      refine s_v (fun _ k => tk_aload_n G dX9_unstep_27 0 rfl (tk_ldc G dX9_unstep_28 wK_X9_57 k)) ?_
      refine s_callVI (As := [.int (-100006)]) G dX9_unstep_30 wY_X9_finding wM_X9_58 wI_X9_finding wS_X9_finding (tk_rm hR (by decide) (by decide)) kX9 k0 (by decide) (c_X9_finding E x2.2 a0 (-100006) k0) rfl rfl (Nat.le_of_ble_eq_true rfl) ⟨Nat.zero_le _, Nat.zero_le _⟩ (fun x30 => ?_)
      exact s_iret G dX9_unstep_33
    ·
      refine s_v (fun _ k => tk_aload_n G dX9_unstep_34 0 rfl k) ?_
      refine s_callVV (As := []) G dX9_unstep_35 wY_X9_keep wM_X9_68 wI_X9_keep wS_X9_keep (tk_rm hR (by decide) (by decide)) kX9 k0 (by decide) (c_X9_keep E x2.2 a0 k0) rfl rfl (Nat.le_of_ble_eq_true rfl) ⟨Nat.zero_le _, Nat.zero_le _⟩ (fun x35 => ?_)
      refine s_v (fun _ k => tk_aload_n G dX9_unstep_38 0 rfl (tk_gr G kX9 dX9_unstep_39 wF_X9_9 k0 gR_9_0 (tk_bipush G dX9_unstep_42 cB_70 (tk_iload_n G dX9_unstep_44 1 rfl (tk_iadd G dX9_unstep_45 (tk_dup2 G dX9_unstep_46 rfl rfl k)))))) ?_
      refine s_iald G dX9_unstep_47 (kF_9_0 k0) (fun v47 => ?_)
      refine s_v (fun _ k => tk_iconst G dX9_unstep_48 cI_1 (tk_isub G dX9_unstep_49 k)) ?_
      refine s_iast G dX9_unstep_50 (kF_9_0 k0) (fun h50 => ?_)
      refine s_v (fun _ k => tk_aload_n G dX9_unstep_51 0 rfl (tk_gr G kX9 dX9_unstep_52 wF_X9_9 k0 gR_9_0 (tk_bipush G dX9_unstep_55 cB_70 (tk_iload_n G dX9_unstep_57 1 rfl (tk_iadd G dX9_unstep_58 k))))) ?_
      refine s_iald G dX9_unstep_59 (kF_9_0 k0) (fun v59 => ?_)
      exact s_iret G dX9_unstep_60
theorem c_X9_unstep (E : tkE) (h : tkH) (a0 : Nat) (a1 : Int32) (k0 : kd a0 = 12) : ∀ x, f_X9_unstep h a0 a1 = some x → tkM E yX9_unstep cX9_unstep 2 (some .int) 2 tkF [.ref (e_ad E a0), .int a1] h (some (.int x.1)) x.2 := fun x hx => tkM_of (by decide) (Nat.le_of_ble_eq_true rfl) (fun _ hR G => w_X9_unstep hR G h a0 a1 k0 x hx)
set_option maxRecDepth 100000 in
set_option maxHeartbeats 4000000 in
theorem w_X9_way {E : tkE} {X : tkX} (hR : x_R X = tkR 2) (G : tkG E X cX9_way 5 RX9 (some .int)) (h : tkH) (a0 : Nat) (a1 : Int32) (a2 : Int32) (a3 : Int32) (k0 : kd a0 = 12) : tkS E X 5 0 0 (tkZi E X) 0 [(0, .ref (e_ad E a0)), (1, .int a1), (2, .int a2), (3, .int a3)] [] h (f_X9_way h a0 a1 a2 a3) := by
  unfold f_X9_way
  refine s_v (fun _ k => tk_iload_n G dX9_way_0 1 rfl k) ?_
  refine s_callSI (As := [.int a1]) G dX9_way_1 wY_X9_isPlace wM_X9_62 wI_X9_isPlace (tk_rm hR (by decide) (by decide)) (c_X9_isPlace E h a1) rfl rfl (Nat.le_of_ble_eq_true rfl) ⟨Nat.zero_le _, Nat.zero_le _⟩ (fun x1 => ?_)
  have hJ25 : ∀ (g25 : tkH), tkS E X 5 0 0 (tkZi E X) 25 [(0, .ref (e_ad E a0))] [] g25 (f_X9_way_J25 a0 g25) := by
    intro g25
    unfold f_X9_way_J25
    refine s_v (fun _ k => tk_aload_n G dX9_way_25 0 rfl (tk_ldc G dX9_way_26 wK_X9_66 k)) ?_
    refine s_callVI (As := [.int (-100001)]) G dX9_way_28 wY_X9_finding wM_X9_58 wI_X9_finding wS_X9_finding (tk_rm hR (by decide) (by decide)) kX9 k0 (by decide) (c_X9_finding E g25 a0 (-100001) k0) rfl rfl (Nat.le_of_ble_eq_true rfl) ⟨Nat.zero_le _, Nat.zero_le _⟩ (fun x28 => ?_)
    exact s_iret G dX9_way_31
  refine s_if_eq (tgt := 25) G dX9_way_4 (by decide) (fun q4 => ?_) (fun q4 => ?_)
  ·
    refine s_sub [0] (al' := [(0, .ref (e_ad E a0))]) rfl ?_
    exact hJ25 _
  ·
    refine s_v (fun _ k => tk_iload_n G dX9_way_7 2 rfl k) ?_
    refine s_callSI (As := [.int a2]) G dX9_way_8 wY_X9_isPlace wM_X9_62 wI_X9_isPlace (tk_rm hR (by decide) (by decide)) (c_X9_isPlace E x1.2 a2) rfl rfl (Nat.le_of_ble_eq_true rfl) ⟨Nat.zero_le _, Nat.zero_le _⟩ (fun x8 => ?_)
    refine s_if_eq (tgt := 25) G dX9_way_11 (by decide) (fun q11 => ?_) (fun q11 => ?_)
    ·
      refine s_sub [0] (al' := [(0, .ref (e_ad E a0))]) rfl ?_
      exact hJ25 _
    ·
      refine s_v (fun _ k => tk_iload_n G dX9_way_14 3 rfl (tk_iconst G dX9_way_15 cI_0 (tk_sipush G dX9_way_16 cS_999 k))) ?_
      refine s_callSI (As := [.int a3, .int 0, .int 999]) G dX9_way_19 wY_X9_within wM_X9_50 wI_X9_within (tk_rm hR (by decide) (by decide)) (c_X9_within E x8.2 a3 0 999) rfl rfl (Nat.le_of_ble_eq_true rfl) ⟨Nat.zero_le _, Nat.zero_le _⟩ (fun x19 => ?_)
      refine s_if_ne (tgt := 32) G dX9_way_22 (by decide) (fun q22 => ?_) (fun q22 => ?_)
      ·
        refine s_sub [0] (al' := [(0, .ref (e_ad E a0))]) rfl ?_
        exact hJ25 _
      ·
        refine s_v (fun _ k => tk_iload_n G dX9_way_32 1 rfl (tk_iload_n G dX9_way_33 2 rfl k)) ?_
        refine s_icmp_ne (tgt := 44) G dX9_way_34 (by decide) (fun q34 => ?_) (fun q34 => ?_)
        ·
          refine s_v (fun _ k => tk_aload_n G dX9_way_37 0 rfl (tk_ldc G dX9_way_38 wK_X9_103 k)) ?_
          refine s_callVI (As := [.int (-100003)]) G dX9_way_40 wY_X9_finding wM_X9_58 wI_X9_finding wS_X9_finding (tk_rm hR (by decide) (by decide)) kX9 k0 (by decide) (c_X9_finding E x19.2 a0 (-100003) k0) rfl rfl (Nat.le_of_ble_eq_true rfl) ⟨Nat.zero_le _, Nat.zero_le _⟩ (fun x40 => ?_)
          exact s_iret G dX9_way_43
        ·
          refine s_v (fun _ k => tk_aload_n G dX9_way_44 0 rfl k) ?_
          refine s_callVV (As := []) G dX9_way_45 wY_X9_keep wM_X9_68 wI_X9_keep wS_X9_keep (tk_rm hR (by decide) (by decide)) kX9 k0 (by decide) (c_X9_keep E x19.2 a0 k0) rfl rfl (Nat.le_of_ble_eq_true rfl) ⟨Nat.zero_le _, Nat.zero_le _⟩ (fun x45 => ?_)
          refine s_v (fun _ k => tk_aload_n G dX9_way_48 0 rfl (tk_gr G kX9 dX9_way_49 wF_X9_9 k0 gR_9_0 (tk_iconst G dX9_way_52 cI_4 (tk_bipush G dX9_way_53 cB_6 (tk_iload_n G dX9_way_55 1 rfl (tk_imul G dX9_way_56 (tk_iadd G dX9_way_57 (tk_iload_n G dX9_way_58 2 rfl (tk_iadd G dX9_way_59 k))))))))) ?_
          refine s_iald G dX9_way_60 (kF_9_0 k0) (fun v60 => ?_)
          refine s_v (fun _ k => tk_istore (al' := [(4, .int v60), (0, .ref (e_ad E a0)), (1, .int a1), (2, .int a2), (3, .int a3)]) G dX9_way_61 (by decide) rfl (tk_aload_n G dX9_way_63 1 rfl (tk_gr G kX9 dX9_way_64 wF_X9_9 k0 gR_9_0 (tk_iconst G dX9_way_67 cI_4 (tk_bipush G dX9_way_68 cB_6 (tk_iload_n G dX9_way_70 2 rfl (tk_imul G dX9_way_71 (tk_iadd G dX9_way_72 (tk_iload_n G dX9_way_73 3 rfl (tk_iadd G dX9_way_74 (tk_iload_n G dX9_way_75 4 rfl k))))))))))) ?_
          refine s_iast G dX9_way_76 (kF_9_0 k0) (fun h76 => ?_)
          refine s_v (fun _ k => tk_aload_n G dX9_way_77 1 rfl (tk_gr G kX9 dX9_way_78 wF_X9_9 k0 gR_9_0 (tk_iconst G dX9_way_81 cI_4 (tk_bipush G dX9_way_82 cB_6 (tk_iload_n G dX9_way_84 3 rfl (tk_imul G dX9_way_85 (tk_iadd G dX9_way_86 (tk_iload_n G dX9_way_87 2 rfl (tk_iadd G dX9_way_88 (tk_iload_n G dX9_way_89 4 rfl k)))))))))) ?_
          refine s_iast G dX9_way_90 (kF_9_0 k0) (fun h90 => ?_)
          refine s_v (fun _ k => tk_iload G dX9_way_91 0 rfl k) ?_
          exact s_iret G dX9_way_93
theorem c_X9_way (E : tkE) (h : tkH) (a0 : Nat) (a1 : Int32) (a2 : Int32) (a3 : Int32) (k0 : kd a0 = 12) : ∀ x, f_X9_way h a0 a1 a2 a3 = some x → tkM E yX9_way cX9_way 5 (some .int) 2 tkF [.ref (e_ad E a0), .int a1, .int a2, .int a3] h (some (.int x.1)) x.2 := fun x hx => tkM_of (by decide) (Nat.le_of_ble_eq_true rfl) (fun _ hR G => w_X9_way hR G h a0 a1 a2 a3 k0 x hx)
set_option maxRecDepth 100000 in
set_option maxHeartbeats 4000000 in
theorem w_X1_find {E : tkE} {X : tkX} (hR : x_R X = tkR 3) (G : tkG E X cX1_find 8 RX1 none) (h : tkH) (a0 : Nat) (a1 : Nat) (a2 : Int32) (a3 : Int32) (k0 : kd a0 = 4) (k1 : kd a1 = 3) : tkS E X 8 0 0 (tkZv E X) 0 [(0, .ref (e_ad E a0)), (1, .ref (e_ad E a1)), (2, .int a2), (3, .int a3)] [] h (f_X1_find h a0 a1 a2 a3) := by
  unfold f_X1_find
  refine s_v (fun _ k => tk_aload_n G dX1_find_0 0 rfl (tk_iconst G dX1_find_1 cI_0 (tk_pi G kX1 dX1_find_2 wF_X1_18 k0 gP_1_2 (tk_iconst G dX1_find_5 cI_0 (tk_istore (al' := [(4, .int 0), (0, .ref (e_ad E a0)), (1, .ref (e_ad E a1)), (2, .int a2), (3, .int a3)]) G dX1_find_6 (by decide) rfl k))))) ?_
  refine s_sub [1, 2, 3, 4, 0] (al' := [(0, .ref (e_ad E a0)), (1, .ref (e_ad E a1)), (2, .int a2), (3, .int a3), (4, .int 0)]) rfl ?_
  unfold f_X1_find_L8
  refine s_lp1 (al := fun y8_4 => [(0, .ref (e_ad E a0)), (1, .ref (e_ad E a1)), (2, .int a2), (3, .int a3), (4, .int y8_4)]) (fun kk8 hL8 g8 y8_4 => ?_) _ _ _
  refine s_v (fun _ k => tk_iload G dX1_find_8 4 rfl (tk_aload_n G dX1_find_10 1 rfl (tk_gr G kX0 dX1_find_11 wF_X1_22 k1 gR_0_5 (tk_iload_n G dX1_find_14 2 rfl k)))) ?_
  refine s_iald G dX1_find_15 (kF_0_5 k1) (fun v15 => ?_)
  refine s_icmp_ge (tgt := 121) G dX1_find_16 (by decide) (fun q16 => ?_) (fun q16 => ?_)
  ·
    exact s_vret G dX1_find_121
  ·
    refine s_v (fun _ k => tk_iconst G dX1_find_19 cI_0 (tk_istore (al' := [(5, .int 0), (0, .ref (e_ad E a0)), (1, .ref (e_ad E a1)), (2, .int a2), (3, .int a3), (4, .int y8_4)]) G dX1_find_20 (by decide) rfl k)) ?_
    have hX115 : ∀ (gz115 : tkH), tkS E X 8 0 0 (tkZv E X) 115 [(0, .ref (e_ad E a0)), (1, .ref (e_ad E a1)), (2, .int a2), (3, .int a3), (4, .int y8_4)] [] gz115 (kk8 gz115 (y8_4 + 1)) := by
      intro gz115
      refine s_v (fun _ k => tk_iinc (al' := [(4, .int (y8_4 + 1)), (0, .ref (e_ad E a0)), (1, .ref (e_ad E a1)), (2, .int a2), (3, .int a3)]) G dX1_find_115 4 rfl (ci_1 _) (by decide) rfl (tk_goto (tgt := 8) G dX1_find_118 (by decide) k)) ?_
      refine s_sub [1, 2, 3, 4, 0] (al' := [(0, .ref (e_ad E a0)), (1, .ref (e_ad E a1)), (2, .int a2), (3, .int a3), (4, .int (y8_4 + 1))]) rfl ?_
      exact hL8 _ _
    refine s_sub [1, 2, 3, 4, 5, 0] (al' := [(0, .ref (e_ad E a0)), (1, .ref (e_ad E a1)), (2, .int a2), (3, .int a3), (4, .int y8_4), (5, .int 0)]) rfl ?_
    unfold f_X1_find_L22
    refine s_lp1 (al := fun y22_5 => [(0, .ref (e_ad E a0)), (1, .ref (e_ad E a1)), (2, .int a2), (3, .int a3), (4, .int y8_4), (5, .int y22_5)]) (fun kk22 hL22 g22 y22_5 => ?_) _ _ _
    refine s_v (fun _ k => tk_iload G dX1_find_22 5 rfl (tk_aload_n G dX1_find_24 1 rfl (tk_gr G kX0 dX1_find_25 wF_X1_22 k1 gR_0_5 (tk_iload_n G dX1_find_28 3 rfl k)))) ?_
    refine s_iald G dX1_find_29 (kF_0_5 k1) (fun v29 => ?_)
    refine s_icmp_ge (tgt := 115) G dX1_find_30 (by decide) (fun q30 => ?_) (fun q30 => ?_)
    ·
      refine s_sub [0, 1, 2, 3, 4] (al' := [(0, .ref (e_ad E a0)), (1, .ref (e_ad E a1)), (2, .int a2), (3, .int a3), (4, .int y8_4)]) rfl ?_
      exact hX115 _
    ·
      refine s_v (fun _ k => tk_aload_n G dX1_find_33 1 rfl (tk_gr G kX0 dX1_find_34 wF_X1_22 k1 gR_0_5 (tk_iload_n G dX1_find_37 2 rfl k))) ?_
      refine s_iald G dX1_find_38 (kF_0_5 k1) (fun v38 => ?_)
      refine s_v (fun _ k => tk_iload G dX1_find_39 4 rfl (tk_isub G dX1_find_41 (tk_aload_n G dX1_find_42 1 rfl (tk_gr G kX0 dX1_find_43 wF_X1_22 k1 gR_0_5 (tk_iload_n G dX1_find_46 3 rfl k))))) ?_
      refine s_iald G dX1_find_47 (kF_0_5 k1) (fun v47 => ?_)
      refine s_v (fun _ k => tk_iload G dX1_find_48 5 rfl (tk_isub G dX1_find_50 (tk_mmin G dX1_find_51 wM_X1_27 (tk_rmm hR (by decide) (Nat.le_of_ble_eq_true rfl)) ⟨Nat.zero_le _, Nat.zero_le _⟩ (tk_istore (al' := [(6, .int (mnI (v38 - y8_4) (v47 - y22_5))), (0, .ref (e_ad E a0)), (1, .ref (e_ad E a1)), (2, .int a2), (3, .int a3), (4, .int y8_4), (5, .int y22_5)]) G dX1_find_54 (by decide) rfl (tk_aload_n G dX1_find_56 1 rfl (tk_aload_n G dX1_find_57 2 rfl (tk_gr G kX0 dX1_find_58 wF_X1_33 k1 gR_0_6 (tk_iload_n G dX1_find_61 3 rfl (tk_bipush G dX1_find_62 cB_10 (tk_imul G dX1_find_64 (tk_iload G dX1_find_65 5 rfl (tk_iadd G dX1_find_67 (tk_iload_n G dX1_find_68 4 rfl (tk_bipush G dX1_find_69 cB_10 (tk_imul G dX1_find_71 (tk_iload G dX1_find_72 6 rfl (tk_iadd G dX1_find_74 (tk_iload G dX1_find_75 0 rfl k)))))))))))))))))) ?_
      refine s_callVI (As := [.ref (e_ad E (fld a1 6)), .int ((a2 * 10) + y8_4), .int ((a3 * 10) + y22_5), .int (mnI (v38 - y8_4) (v47 - y22_5))]) G dX1_find_77 wY_X1_sameFrom wM_X1_36 wI_X1_sameFrom wS_X1_sameFrom (tk_rm hR (by decide) (by decide)) kX1 k0 (by decide) (c_X1_sameFrom E g22 a0 (fld a1 6) ((a2 * 10) + y8_4) ((a3 * 10) + y22_5) (mnI (v38 - y8_4) (v47 - y22_5)) k0 (kF_0_6 k1)) rfl rfl (Nat.le_of_ble_eq_true rfl) ⟨Nat.zero_le _, Nat.zero_le _⟩ (fun x77 => ?_)
      refine s_v (fun _ k => tk_istore (al' := [(7, .int x77.1), (6, .int (mnI (v38 - y8_4) (v47 - y22_5))), (0, .ref (e_ad E a0)), (1, .ref (e_ad E a1)), (2, .int a2), (3, .int a3), (4, .int y8_4), (5, .int y22_5)]) G dX1_find_80 (by decide) rfl (tk_iload G dX1_find_82 0 rfl (tk_aload_n G dX1_find_84 2 rfl (tk_gi G kX1 dX1_find_85 wF_X1_18 k0 gI_1_2 k)))) ?_
      refine s_icmp_le (tgt := 109) G dX1_find_88 (by decide) (fun q88 => ?_) (fun q88 => ?_)
      ·
        refine s_v (fun _ k => tk_iinc (al' := [(5, .int (y22_5 + 1)), (7, .int x77.1), (6, .int (mnI (v38 - y8_4) (v47 - y22_5))), (0, .ref (e_ad E a0)), (1, .ref (e_ad E a1)), (2, .int a2), (3, .int a3), (4, .int y8_4)]) G dX1_find_109 7 rfl (ci_1 _) (by decide) rfl (tk_goto (tgt := 22) G dX1_find_112 (by decide) k)) ?_
        refine s_sub [3, 4, 5, 6, 7, 0] (al' := [(0, .ref (e_ad E a0)), (1, .ref (e_ad E a1)), (2, .int a2), (3, .int a3), (4, .int y8_4), (5, .int (y22_5 + 1))]) rfl ?_
        exact hL22 _ _
      ·
        refine s_v (fun _ k => tk_aload_n G dX1_find_91 2 rfl (tk_iload G dX1_find_92 0 rfl (tk_pi G kX1 dX1_find_94 wF_X1_18 k0 gP_1_2 (tk_aload_n G dX1_find_97 2 rfl (tk_iload G dX1_find_98 6 rfl (tk_pi G kX1 dX1_find_100 wF_X1_40 k0 gP_1_3 (tk_aload_n G dX1_find_103 2 rfl (tk_iload G dX1_find_104 7 rfl (tk_pi G kX1 dX1_find_106 wF_X1_43 k0 gP_1_4 (tk_iinc (al' := [(5, .int (y22_5 + 1)), (7, .int x77.1), (6, .int (mnI (v38 - y8_4) (v47 - y22_5))), (0, .ref (e_ad E a0)), (1, .ref (e_ad E a1)), (2, .int a2), (3, .int a3), (4, .int y8_4)]) G dX1_find_109 7 rfl (ci_1 _) (by decide) rfl (tk_goto (tgt := 22) G dX1_find_112 (by decide) k))))))))))) ?_
        refine s_sub [3, 4, 5, 6, 7, 0] (al' := [(0, .ref (e_ad E a0)), (1, .ref (e_ad E a1)), (2, .int a2), (3, .int a3), (4, .int y8_4), (5, .int (y22_5 + 1))]) rfl ?_
        exact hL22 _ _
theorem c_X1_find (E : tkE) (h : tkH) (a0 : Nat) (a1 : Nat) (a2 : Int32) (a3 : Int32) (k0 : kd a0 = 4) (k1 : kd a1 = 3) : ∀ x, f_X1_find h a0 a1 a2 a3 = some x → tkM E yX1_find cX1_find 8 none 3 tkF [.ref (e_ad E a0), .ref (e_ad E a1), .int a2, .int a3] h none x := fun x hx => tkM_of (by decide) (Nat.le_of_ble_eq_true rfl) (fun _ hR G => w_X1_find hR G h a0 a1 a2 a3 k0 k1 x hx)
set_option maxRecDepth 100000 in
set_option maxHeartbeats 4000000 in
theorem w_X2_between {E : tkE} {X : tkX} (hR : x_R X = tkR 3) (G : tkG E X cX2_between 5 RX2 (some .int)) (h : tkH) (a0 : Nat) (a1 : Nat) (a2 : Int32) (a3 : Int32) (k0 : kd a0 = 5) (k1 : kd a1 = 3) : tkS E X 5 0 0 (tkZi E X) 0 [(0, .ref (e_ad E a0)), (1, .ref (e_ad E a1)), (2, .int a2), (3, .int a3)] [] h (f_X2_between h a0 a1 a2 a3) := by
  unfold f_X2_between
  refine s_v (fun _ k => tk_iload_n G dX2_between_0 2 rfl (tk_bipush G dX2_between_1 cB_10 (tk_imul G dX2_between_3 (tk_iload_n G dX2_between_4 3 rfl (tk_iadd G dX2_between_5 (tk_istore (al' := [(4, .int ((a2 * 10) + a3)), (0, .ref (e_ad E a0)), (1, .ref (e_ad E a1)), (2, .int a2), (3, .int a3)]) G dX2_between_6 (by decide) rfl (tk_aload_n G dX2_between_8 1 rfl (tk_gr G kX2 dX2_between_9 wF_X2_18 k0 gR_2_1 (tk_iload G dX2_between_12 0 rfl k))))))))) ?_
  refine s_iald G dX2_between_14 (kF_2_1 k0) (fun v14 => ?_)
  have hJ85 : ∀ (g85 : tkH), tkS E X 5 0 0 (tkZi E X) 85 [(0, .ref (e_ad E a0)), (4, .int ((a2 * 10) + a3))] [] g85 (f_X2_between_J85 a0 a2 a3 g85) := by
    intro g85
    unfold f_X2_between_J85
    refine s_v (fun _ k => tk_aload_n G dX2_between_85 0 rfl (tk_gr G kX2 dX2_between_86 wF_X2_18 k0 gR_2_1 (tk_iload G dX2_between_89 1 rfl k))) ?_
    refine s_iald G dX2_between_91 (kF_2_1 k0) (fun v91 => ?_)
    exact s_iret G dX2_between_92
  refine s_if_ge (tgt := 85) G dX2_between_15 (by decide) (fun q15 => ?_) (fun q15 => ?_)
  ·
    refine s_sub [1, 0] (al' := [(0, .ref (e_ad E a0)), (4, .int ((a2 * 10) + a3))]) rfl ?_
    exact hJ85 _
  ·
    refine s_v (fun _ k => tk_aload_n G dX2_between_18 1 rfl (tk_gr G kX2 dX2_between_19 wF_X2_12 k0 gR_2_0 (tk_gr G kX4 dX2_between_22 wF_X2_28 (kF_2_0 k0) gR_4_0 (tk_aload_n G dX2_between_25 2 rfl (tk_iload_n G dX2_between_26 3 rfl k))))) ?_
    refine s_callVV (As := [.ref (e_ad E a1), .int a2]) G dX2_between_27 wY_X5_takeLaid wM_X2_32 wI_X5_takeLaid wS_X5_takeLaid (tk_rm hR (by decide) (by decide)) kX5 (kF_4_0 (kF_2_0 k0)) (by decide) (c_X5_takeLaid E h (fld (fld a0 0) 0) a1 a2 (kF_4_0 (kF_2_0 k0)) k1) rfl rfl (Nat.le_of_ble_eq_true rfl) ⟨Nat.zero_le _, Nat.zero_le _⟩ (fun x27 => ?_)
    refine s_v (fun _ k => tk_aload_n G dX2_between_30 1 rfl (tk_gr G kX2 dX2_between_31 wF_X2_12 k0 gR_2_0 (tk_gr G kX4 dX2_between_34 wF_X2_38 (kF_2_0 k0) gR_4_1 (tk_aload_n G dX2_between_37 2 rfl (tk_iload_n G dX2_between_38 4 rfl k))))) ?_
    refine s_callVV (As := [.ref (e_ad E a1), .int a3]) G dX2_between_39 wY_X5_takeLaid wM_X2_32 wI_X5_takeLaid wS_X5_takeLaid (tk_rm hR (by decide) (by decide)) kX5 (kF_4_1 (kF_2_0 k0)) (by decide) (c_X5_takeLaid E x27 (fld (fld a0 0) 1) a1 a3 (kF_4_1 (kF_2_0 k0)) k1) rfl rfl (Nat.le_of_ble_eq_true rfl) ⟨Nat.zero_le _, Nat.zero_le _⟩ (fun x39 => ?_)
    refine s_v (fun _ k => tk_aload_n G dX2_between_42 1 rfl (tk_gr G kX2 dX2_between_43 wF_X2_12 k0 gR_2_0 (tk_aload_n G dX2_between_46 2 rfl (tk_gr G kX0 dX2_between_47 wF_X2_41 k1 gR_0_7 k)))) ?_
    refine s_callVV (As := [.ref (e_ad E (fld a1 7))]) G dX2_between_50 wY_X4_findLeast wM_X2_46 wI_X4_findLeast wS_X4_findLeast (tk_rm hR (by decide) (by decide)) kX4 (kF_2_0 k0) (by decide) (c_X4_findLeast E x39 (fld a0 0) (fld a1 7) (kF_2_0 k0) (kF_0_7 k1)) rfl rfl (Nat.le_of_ble_eq_true rfl) ⟨Nat.zero_le _, Nat.zero_le _⟩ (fun x50 => ?_)
    refine s_v (fun _ k => tk_aload_n G dX2_between_53 1 rfl (tk_gr G kX2 dX2_between_54 wF_X2_18 k0 gR_2_1 (tk_iload G dX2_between_57 0 rfl (tk_aload_n G dX2_between_59 1 rfl (tk_gr G kX2 dX2_between_60 wF_X2_12 k0 gR_2_0 (tk_gi G kX4 dX2_between_63 wF_X2_50 (kF_2_0 k0) gI_4_8 k)))))) ?_
    refine s_iast G dX2_between_66 (kF_2_1 k0) (fun h66 => ?_)
    refine s_v (fun _ k => tk_aload_n G dX2_between_67 1 rfl (tk_gr G kX2 dX2_between_68 wF_X2_18 k0 gR_2_1 (tk_iload_n G dX2_between_71 4 rfl (tk_bipush G dX2_between_72 cB_10 (tk_imul G dX2_between_74 (tk_iload_n G dX2_between_75 3 rfl (tk_iadd G dX2_between_76 (tk_aload_n G dX2_between_77 1 rfl (tk_gr G kX2 dX2_between_78 wF_X2_12 k0 gR_2_0 (tk_gi G kX4 dX2_between_81 wF_X2_50 (kF_2_0 k0) gI_4_8 k)))))))))) ?_
    refine s_iast G dX2_between_84 (kF_2_1 k0) (fun h84 => ?_)
    refine s_sub [1, 0] (al' := [(0, .ref (e_ad E a0)), (4, .int ((a2 * 10) + a3))]) rfl ?_
    exact hJ85 _
theorem c_X2_between (E : tkE) (h : tkH) (a0 : Nat) (a1 : Nat) (a2 : Int32) (a3 : Int32) (k0 : kd a0 = 5) (k1 : kd a1 = 3) : ∀ x, f_X2_between h a0 a1 a2 a3 = some x → tkM E yX2_between cX2_between 5 (some .int) 3 tkF [.ref (e_ad E a0), .ref (e_ad E a1), .int a2, .int a3] h (some (.int x.1)) x.2 := fun x hx => tkM_of (by decide) (Nat.le_of_ble_eq_true rfl) (fun _ hR G => w_X2_between hR G h a0 a1 a2 a3 k0 k1 x hx)
set_option maxRecDepth 100000 in
set_option maxHeartbeats 4000000 in
theorem w_X2_layTales {E : tkE} {X : tkX} (hR : x_R X = tkR 3) (G : tkG E X cX2_layTales 4 RX2 (some (.object "TaleDesk$Laying"))) (h : tkH) (a0 : Nat) (a1 : Nat) (a2 : Int32) (a3 : Int32) (k0 : kd a0 = 5) (k1 : kd a1 = 3) : tkS E X 4 0 0 (tkZa E X) 0 [(0, .ref (e_ad E a0)), (1, .ref (e_ad E a1)), (2, .int a2), (3, .int a3)] [] h (f_X2_layTales h a0 a1 a2 a3) := by
  unfold f_X2_layTales
  refine s_v (fun _ k => tk_aload_n G dX2_layTales_0 0 rfl (tk_gr G kX2 dX2_layTales_1 wF_X2_12 k0 gR_2_0 (tk_gr G kX4 dX2_layTales_4 wF_X2_28 (kF_2_0 k0) gR_4_0 (tk_aload_n G dX2_layTales_7 1 rfl (tk_iload_n G dX2_layTales_8 2 rfl k))))) ?_
  refine s_callVV (As := [.ref (e_ad E a1), .int a2]) G dX2_layTales_9 wY_X5_takeLaid wM_X2_32 wI_X5_takeLaid wS_X5_takeLaid (tk_rm hR (by decide) (by decide)) kX5 (kF_4_0 (kF_2_0 k0)) (by decide) (c_X5_takeLaid E h (fld (fld a0 0) 0) a1 a2 (kF_4_0 (kF_2_0 k0)) k1) rfl rfl (Nat.le_of_ble_eq_true rfl) ⟨Nat.zero_le _, Nat.zero_le _⟩ (fun x9 => ?_)
  refine s_v (fun _ k => tk_aload_n G dX2_layTales_12 0 rfl (tk_gr G kX2 dX2_layTales_13 wF_X2_12 k0 gR_2_0 (tk_gr G kX4 dX2_layTales_16 wF_X2_38 (kF_2_0 k0) gR_4_1 (tk_aload_n G dX2_layTales_19 1 rfl (tk_iload_n G dX2_layTales_20 3 rfl k))))) ?_
  refine s_callVV (As := [.ref (e_ad E a1), .int a3]) G dX2_layTales_21 wY_X5_takeLaid wM_X2_32 wI_X5_takeLaid wS_X5_takeLaid (tk_rm hR (by decide) (by decide)) kX5 (kF_4_1 (kF_2_0 k0)) (by decide) (c_X5_takeLaid E x9 (fld (fld a0 0) 1) a1 a3 (kF_4_1 (kF_2_0 k0)) k1) rfl rfl (Nat.le_of_ble_eq_true rfl) ⟨Nat.zero_le _, Nat.zero_le _⟩ (fun x21 => ?_)
  refine s_v (fun _ k => tk_aload_n G dX2_layTales_24 0 rfl (tk_gr G kX2 dX2_layTales_25 wF_X2_12 k0 gR_2_0 (tk_aload_n G dX2_layTales_28 1 rfl (tk_gr G kX0 dX2_layTales_29 wF_X2_41 k1 gR_0_7 k)))) ?_
  refine s_callVV (As := [.ref (e_ad E (fld a1 7))]) G dX2_layTales_32 wY_X4_findLeast wM_X2_46 wI_X4_findLeast wS_X4_findLeast (tk_rm hR (by decide) (by decide)) kX4 (kF_2_0 k0) (by decide) (c_X4_findLeast E x21 (fld a0 0) (fld a1 7) (kF_2_0 k0) (kF_0_7 k1)) rfl rfl (Nat.le_of_ble_eq_true rfl) ⟨Nat.zero_le _, Nat.zero_le _⟩ (fun x32 => ?_)
  refine s_v (fun _ k => tk_aload_n G dX2_layTales_35 0 rfl (tk_gr G kX2 dX2_layTales_36 wF_X2_12 k0 gR_2_0 k)) ?_
  exact s_aret G dX2_layTales_39
theorem c_X2_layTales (E : tkE) (h : tkH) (a0 : Nat) (a1 : Nat) (a2 : Int32) (a3 : Int32) (k0 : kd a0 = 5) (k1 : kd a1 = 3) : ∀ x, f_X2_layTales h a0 a1 a2 a3 = some x → tkM E yX2_layTales cX2_layTales 4 (some (.object "TaleDesk$Laying")) 3 tkF [.ref (e_ad E a0), .ref (e_ad E a1), .int a2, .int a3] h (some (.ref (e_ad E x.1))) x.2 := fun x hx => tkM_of (by decide) (Nat.le_of_ble_eq_true rfl) (fun _ hR G => w_X2_layTales hR G h a0 a1 a2 a3 k0 k1 x hx)
set_option maxRecDepth 100000 in
set_option maxHeartbeats 4000000 in
theorem w_X2_ofPart {E : tkE} {X : tkX} (hR : x_R X = tkR 3) (G : tkG E X cX2_ofPart 6 RX2 (some .int)) (h : tkH) (a0 : Nat) (a1 : Nat) (a2 : Int32) (a3 : Int32) (a4 : Int32) (a5 : Int32) (k0 : kd a0 = 5) (k1 : kd a1 = 3) : tkS E X 6 0 0 (tkZi E X) 0 [(0, .ref (e_ad E a0)), (1, .ref (e_ad E a1)), (2, .int a2), (3, .int a3), (4, .int a4), (5, .int a5)] [] h (f_X2_ofPart h a0 a1 a2 a3 a4 a5) := by
  unfold f_X2_ofPart
  refine s_v (fun _ k => tk_aload_n G dX2_ofPart_0 0 rfl (tk_gr G kX2 dX2_ofPart_1 wF_X2_12 k0 gR_2_0 (tk_gr G kX4 dX2_ofPart_4 wF_X2_28 (kF_2_0 k0) gR_4_0 (tk_aload_n G dX2_ofPart_7 1 rfl (tk_iload_n G dX2_ofPart_8 2 rfl (tk_iload_n G dX2_ofPart_9 3 rfl (tk_iload G dX2_ofPart_10 4 rfl k))))))) ?_
  refine s_callVV (As := [.ref (e_ad E a1), .int a2, .int a3, .int a4]) G dX2_ofPart_12 wY_X5_takePart wM_X2_72 wI_X5_takePart wS_X5_takePart (tk_rm hR (by decide) (by decide)) kX5 (kF_4_0 (kF_2_0 k0)) (by decide) (c_X5_takePart E h (fld (fld a0 0) 0) a1 a2 a3 a4 (kF_4_0 (kF_2_0 k0)) k1) rfl rfl (Nat.le_of_ble_eq_true rfl) ⟨Nat.zero_le _, Nat.zero_le _⟩ (fun x12 => ?_)
  refine s_v (fun _ k => tk_aload_n G dX2_ofPart_15 0 rfl (tk_gr G kX2 dX2_ofPart_16 wF_X2_12 k0 gR_2_0 (tk_gr G kX4 dX2_ofPart_19 wF_X2_38 (kF_2_0 k0) gR_4_1 (tk_aload_n G dX2_ofPart_22 1 rfl (tk_iload G dX2_ofPart_23 5 rfl k))))) ?_
  refine s_callVV (As := [.ref (e_ad E a1), .int a5]) G dX2_ofPart_25 wY_X5_takeLaid wM_X2_32 wI_X5_takeLaid wS_X5_takeLaid (tk_rm hR (by decide) (by decide)) kX5 (kF_4_1 (kF_2_0 k0)) (by decide) (c_X5_takeLaid E x12 (fld (fld a0 0) 1) a1 a5 (kF_4_1 (kF_2_0 k0)) k1) rfl rfl (Nat.le_of_ble_eq_true rfl) ⟨Nat.zero_le _, Nat.zero_le _⟩ (fun x25 => ?_)
  refine s_v (fun _ k => tk_aload_n G dX2_ofPart_28 0 rfl (tk_gr G kX2 dX2_ofPart_29 wF_X2_12 k0 gR_2_0 (tk_aload_n G dX2_ofPart_32 1 rfl (tk_gr G kX0 dX2_ofPart_33 wF_X2_41 k1 gR_0_7 k)))) ?_
  refine s_callVV (As := [.ref (e_ad E (fld a1 7))]) G dX2_ofPart_36 wY_X4_findLeast wM_X2_46 wI_X4_findLeast wS_X4_findLeast (tk_rm hR (by decide) (by decide)) kX4 (kF_2_0 k0) (by decide) (c_X4_findLeast E x25 (fld a0 0) (fld a1 7) (kF_2_0 k0) (kF_0_7 k1)) rfl rfl (Nat.le_of_ble_eq_true rfl) ⟨Nat.zero_le _, Nat.zero_le _⟩ (fun x36 => ?_)
  refine s_v (fun _ k => tk_aload_n G dX2_ofPart_39 0 rfl (tk_gr G kX2 dX2_ofPart_40 wF_X2_12 k0 gR_2_0 (tk_gi G kX4 dX2_ofPart_43 wF_X2_50 (kF_2_0 k0) gI_4_8 k))) ?_
  exact s_iret G dX2_ofPart_46
theorem c_X2_ofPart (E : tkE) (h : tkH) (a0 : Nat) (a1 : Nat) (a2 : Int32) (a3 : Int32) (a4 : Int32) (a5 : Int32) (k0 : kd a0 = 5) (k1 : kd a1 = 3) : ∀ x, f_X2_ofPart h a0 a1 a2 a3 a4 a5 = some x → tkM E yX2_ofPart cX2_ofPart 6 (some .int) 3 tkF [.ref (e_ad E a0), .ref (e_ad E a1), .int a2, .int a3, .int a4, .int a5] h (some (.int x.1)) x.2 := fun x hx => tkM_of (by decide) (Nat.le_of_ble_eq_true rfl) (fun _ hR G => w_X2_ofPart hR G h a0 a1 a2 a3 a4 a5 k0 k1 x hx)
set_option maxRecDepth 100000 in
set_option maxHeartbeats 4000000 in
theorem w_X8_count {E : tkE} {X : tkX} (hR : x_R X = tkR 3) (G : tkG E X cX8_count 5 RX8 (some .int)) (h : tkH) (a0 : Nat) (a1 : Int32) (a2 : Int32) (a3 : Int32) (k0 : kd a0 = 11) : tkS E X 5 0 0 (tkZi E X) 0 [(0, .ref (e_ad E a0)), (1, .int a1), (2, .int a2), (3, .int a3)] [] h (f_X8_count h a0 a1 a2 a3) := by
  unfold f_X8_count
  refine s_v (fun _ k => tk_iload_n G dX8_count_0 1 rfl (tk_bipush G dX8_count_1 cB_16 k)) ?_
  refine s_callSI (As := [.int a1, .int 16]) G dX8_count_3 wY_X8_isWithin wM_X8_55 wI_X8_isWithin (tk_rm hR (by decide) (by decide)) (c_X8_isWithin E h a1 16) rfl rfl (Nat.le_of_ble_eq_true rfl) ⟨Nat.zero_le _, Nat.zero_le _⟩ (fun x3 => ?_)
  have hJ23 : ∀ (g23 : tkH), tkS E X 5 0 0 (tkZi E X) 23 [(0, .ref (e_ad E a0))] [] g23 (f_X8_count_J23 a0 g23) := by
    intro g23
    unfold f_X8_count_J23
    refine s_v (fun _ k => tk_aload_n G dX8_count_23 0 rfl (tk_ldc G dX8_count_24 wK_X8_59 k)) ?_
    refine s_callVI (As := [.int (-100001)]) G dX8_count_26 wY_X8_finding wM_X8_60 wI_X8_finding wS_X8_finding (tk_rm hR (by decide) (by decide)) kX8 k0 (by decide) (c_X8_finding E g23 a0 (-100001) k0) rfl rfl (Nat.le_of_ble_eq_true rfl) ⟨Nat.zero_le _, Nat.zero_le _⟩ (fun x26 => ?_)
    exact s_iret G dX8_count_29
  refine s_if_eq (tgt := 23) G dX8_count_6 (by decide) (fun q6 => ?_) (fun q6 => ?_)
  ·
    refine s_sub [0] (al' := [(0, .ref (e_ad E a0))]) rfl ?_
    exact hJ23 _
  ·
    refine s_v (fun _ k => tk_iload_n G dX8_count_9 2 rfl (tk_iconst G dX8_count_10 cI_m1 k)) ?_
    have hJ30 : ∀ (g30 : tkH), tkS E X 5 0 0 (tkZi E X) 30 [(0, .ref (e_ad E a0)), (1, .int a1), (2, .int a2), (3, .int a3)] [] g30 (f_X8_count_J30 a0 a1 a2 a3 g30) := by
      intro g30
      unfold f_X8_count_J30
      refine s_v (fun _ k => tk_aload_n G dX8_count_30 0 rfl (tk_gr G kX8 dX8_count_31 wF_X8_10 k0 gR_8_0 (tk_iload_n G dX8_count_34 1 rfl (tk_iload_n G dX8_count_35 2 rfl k)))) ?_
      refine s_callVI (As := [.int a1, .int a2]) G dX8_count_36 wY_X0_howOftenAt wM_X8_238 wI_X0_howOftenAt wS_X0_howOftenAt (tk_rm hR (by decide) (by decide)) kX0 (kF_8_0 k0) (by decide) (c_X0_howOftenAt E g30 (fld a0 0) a1 a2 (kF_8_0 k0)) rfl rfl (Nat.le_of_ble_eq_true rfl) ⟨Nat.zero_le _, Nat.zero_le _⟩ (fun x36 => ?_)
      refine s_v (fun _ k => tk_istore (al' := [(4, .int x36.1), (0, .ref (e_ad E a0)), (1, .int a1), (2, .int a2), (3, .int a3)]) G dX8_count_39 (by decide) rfl (tk_iload_n G dX8_count_41 4 rfl k)) ?_
      refine s_if_eq (tgt := 59) G dX8_count_42 (by decide) (fun q42 => ?_) (fun q42 => ?_)
      ·
        refine s_v (fun _ k => tk_iload G dX8_count_59 0 rfl k) ?_
        exact s_iret G dX8_count_61
      ·
        refine s_v (fun _ k => tk_iload G dX8_count_45 0 rfl (tk_aload_n G dX8_count_47 1 rfl (tk_gr G kX8 dX8_count_48 wF_X8_10 k0 gR_8_0 (tk_iload_n G dX8_count_51 3 rfl k)))) ?_
        refine s_callVI (As := [.int a2]) G dX8_count_52 wY_X0_doubtsAt wM_X8_241 wI_X0_doubtsAt wS_X0_doubtsAt (tk_rm hR (by decide) (by decide)) kX0 (kF_8_0 k0) (by decide) (c_X0_doubtsAt E x36.2 (fld a0 0) a2 (kF_8_0 k0)) rfl rfl (Nat.le_of_ble_eq_true rfl) ⟨Nat.zero_le _, Nat.zero_le _⟩ (fun x52 => ?_)
        refine s_v (fun _ k => tk_iadd G dX8_count_55 (tk_goto (tgt := 61) G dX8_count_56 (by decide) k)) ?_
        exact s_iret G dX8_count_61
    refine s_icmp_eq (tgt := 30) G dX8_count_11 (by decide) (fun q11 => ?_) (fun q11 => ?_)
    ·
      exact hJ30 _
    ·
      refine s_v (fun _ k => tk_iload_n G dX8_count_14 2 rfl (tk_bipush G dX8_count_15 cB_6 k)) ?_
      refine s_callSI (As := [.int a2, .int 6]) G dX8_count_17 wY_X8_isWithin wM_X8_55 wI_X8_isWithin (tk_rm hR (by decide) (by decide)) (c_X8_isWithin E x3.2 a2 6) rfl rfl (Nat.le_of_ble_eq_true rfl) ⟨Nat.zero_le _, Nat.zero_le _⟩ (fun x17 => ?_)
      refine s_if_ne (tgt := 30) G dX8_count_20 (by decide) (fun q20 => ?_) (fun q20 => ?_)
      ·
        refine s_sub [0] (al' := [(0, .ref (e_ad E a0))]) rfl ?_
        exact hJ23 _
      ·
        exact hJ30 _
theorem c_X8_count (E : tkE) (h : tkH) (a0 : Nat) (a1 : Int32) (a2 : Int32) (a3 : Int32) (k0 : kd a0 = 11) : ∀ x, f_X8_count h a0 a1 a2 a3 = some x → tkM E yX8_count cX8_count 5 (some .int) 3 tkF [.ref (e_ad E a0), .int a1, .int a2, .int a3] h (some (.int x.1)) x.2 := fun x hx => tkM_of (by decide) (Nat.le_of_ble_eq_true rfl) (fun _ hR G => w_X8_count hR G h a0 a1 a2 a3 k0 x hx)
set_option maxRecDepth 100000 in
set_option maxHeartbeats 4000000 in
theorem w_X8_home {E : tkE} {X : tkX} (hR : x_R X = tkR 3) (G : tkG E X cX8_home 6 RX8 (some .int)) (h : tkH) (a0 : Nat) (a1 : Int32) (k0 : kd a0 = 11) : tkS E X 6 0 0 (tkZi E X) 0 [(0, .ref (e_ad E a0)), (1, .int a1)] [] h (f_X8_home h a0 a1) := by
  unfold f_X8_home
  refine s_v (fun _ k => tk_iload_n G dX8_home_0 1 rfl (tk_bipush G dX8_home_1 cB_16 k)) ?_
  refine s_callSI (As := [.int a1, .int 16]) G dX8_home_3 wY_X8_isWithin wM_X8_55 wI_X8_isWithin (tk_rm hR (by decide) (by decide)) (c_X8_isWithin E h a1 16) rfl rfl (Nat.le_of_ble_eq_true rfl) ⟨Nat.zero_le _, Nat.zero_le _⟩ (fun x3 => ?_)
  refine s_if_ne (tgt := 16) G dX8_home_6 (by decide) (fun q6 => ?_) (fun q6 => ?_)
  ·
    refine s_v (fun _ k => tk_aload_n G dX8_home_9 0 rfl (tk_ldc G dX8_home_10 wK_X8_59 k)) ?_
    refine s_callVI (As := [.int (-100001)]) G dX8_home_12 wY_X8_finding wM_X8_60 wI_X8_finding wS_X8_finding (tk_rm hR (by decide) (by decide)) kX8 k0 (by decide) (c_X8_finding E x3.2 a0 (-100001) k0) rfl rfl (Nat.le_of_ble_eq_true rfl) ⟨Nat.zero_le _, Nat.zero_le _⟩ (fun x12 => ?_)
    exact s_iret G dX8_home_15
  ·
    refine s_v (fun _ k => tk_iconst G dX8_home_16 cI_m1 (tk_istore_n (al' := [(2, .int (-1)), (0, .ref (e_ad E a0)), (1, .int a1)]) G dX8_home_17 (by decide) rfl (tk_iconst G dX8_home_18 cI_0 (tk_istore_n (al' := [(3, .int 0), (2, .int (-1)), (0, .ref (e_ad E a0)), (1, .int a1)]) G dX8_home_19 (by decide) rfl (tk_iconst G dX8_home_20 cI_0 (tk_istore (al' := [(4, .int 0), (3, .int 0), (2, .int (-1)), (0, .ref (e_ad E a0)), (1, .int a1)]) G dX8_home_21 (by decide) rfl k)))))) ?_
    have hX60 : ∀ (gz60 : tkH) (z60_2 : Int32), tkS E X 6 0 0 (tkZi E X) 60 [(0, .ref (e_ad E a0)), (2, .int z60_2)] [] gz60 (if 0 ≤ z60_2 then (some (z60_2, gz60)) else ((f_X8_finding gz60 a0 (-100006)).bind fun x67 => some (x67.1, x67.2))) := by
      intro gz60 z60_2
      refine s_v (fun _ k => tk_iload_n G dX8_home_60 1 rfl k) ?_
      refine s_if_ge (tgt := 73) G dX8_home_61 (by decide) (fun q61 => ?_) (fun q61 => ?_)
      ·
        refine s_v (fun _ k => tk_iload_n G dX8_home_73 1 rfl k) ?_
        exact s_iret G dX8_home_74
      ·
        refine s_v (fun _ k => tk_aload_n G dX8_home_64 0 rfl (tk_ldc G dX8_home_65 wK_X8_106 k)) ?_
        refine s_callVI (As := [.int (-100006)]) G dX8_home_67 wY_X8_finding wM_X8_60 wI_X8_finding wS_X8_finding (tk_rm hR (by decide) (by decide)) kX8 k0 (by decide) (c_X8_finding E gz60 a0 (-100006) k0) rfl rfl (Nat.le_of_ble_eq_true rfl) ⟨Nat.zero_le _, Nat.zero_le _⟩ (fun x67 => ?_)
        refine s_v (fun _ k => tk_goto (tgt := 74) G dX8_home_70 (by decide) k) ?_
        exact s_iret G dX8_home_74
    refine s_sub [3, 4, 2, 1, 0] (al' := [(0, .ref (e_ad E a0)), (1, .int a1), (2, .int (-1)), (3, .int 0), (4, .int 0)]) rfl ?_
    unfold f_X8_home_L23
    refine s_lp3 (al := fun y23_2 y23_3 y23_4 => [(0, .ref (e_ad E a0)), (1, .int a1), (2, .int y23_2), (3, .int y23_3), (4, .int y23_4)]) (fun kk23 hL23 g23 y23_2 y23_3 y23_4 => ?_) _ _ _ _ _
    refine s_v (fun _ k => tk_iload G dX8_home_23 4 rfl (tk_bipush G dX8_home_25 cB_6 k)) ?_
    refine s_icmp_ge (tgt := 60) G dX8_home_27 (by decide) (fun q27 => ?_) (fun q27 => ?_)
    ·
      refine s_sub [0, 2] (al' := [(0, .ref (e_ad E a0)), (2, .int y23_2)]) rfl ?_
      exact hX60 _ _
    ·
      refine s_v (fun _ k => tk_aload_n G dX8_home_30 0 rfl (tk_gr G kX8 dX8_home_31 wF_X8_10 k0 gR_8_0 (tk_iload_n G dX8_home_34 1 rfl (tk_iload G dX8_home_35 4 rfl k)))) ?_
      refine s_callVI (As := [.int a1, .int y23_4]) G dX8_home_37 wY_X0_howOftenAt wM_X8_238 wI_X0_howOftenAt wS_X0_howOftenAt (tk_rm hR (by decide) (by decide)) kX0 (kF_8_0 k0) (by decide) (c_X0_howOftenAt E g23 (fld a0 0) a1 y23_4 (kF_8_0 k0)) rfl rfl (Nat.le_of_ble_eq_true rfl) ⟨Nat.zero_le _, Nat.zero_le _⟩ (fun x37 => ?_)
      refine s_v (fun _ k => tk_istore (al' := [(5, .int x37.1), (0, .ref (e_ad E a0)), (1, .int a1), (2, .int y23_2), (3, .int y23_3), (4, .int y23_4)]) G dX8_home_40 (by decide) rfl (tk_iload G dX8_home_42 0 rfl (tk_iload_n G dX8_home_44 4 rfl k))) ?_
      refine s_icmp_le (tgt := 54) G dX8_home_45 (by decide) (fun q45 => ?_) (fun q45 => ?_)
      ·
        refine s_v (fun _ k => tk_iinc (al' := [(4, .int (y23_4 + 1)), (5, .int x37.1), (0, .ref (e_ad E a0)), (1, .int a1), (2, .int y23_2), (3, .int y23_3)]) G dX8_home_54 5 rfl (ci_1 _) (by decide) rfl (tk_goto (tgt := 23) G dX8_home_57 (by decide) k)) ?_
        refine s_sub [2, 3, 4, 5, 0] (al' := [(0, .ref (e_ad E a0)), (1, .int a1), (2, .int y23_2), (3, .int y23_3), (4, .int (y23_4 + 1))]) rfl ?_
        exact hL23 _ _ _ _
      ·
        refine s_v (fun _ k => tk_iload G dX8_home_48 5 rfl (tk_istore_n (al' := [(2, .int y23_4), (5, .int x37.1), (0, .ref (e_ad E a0)), (1, .int a1), (3, .int y23_3), (4, .int y23_4)]) G dX8_home_50 (by decide) rfl (tk_iload G dX8_home_51 1 rfl (tk_istore_n (al' := [(3, .int x37.1), (2, .int y23_4), (5, .int x37.1), (0, .ref (e_ad E a0)), (1, .int a1), (4, .int y23_4)]) G dX8_home_53 (by decide) rfl (tk_iinc (al' := [(4, .int (y23_4 + 1)), (3, .int x37.1), (2, .int y23_4), (5, .int x37.1), (0, .ref (e_ad E a0)), (1, .int a1)]) G dX8_home_54 5 rfl (ci_1 _) (by decide) rfl (tk_goto (tgt := 23) G dX8_home_57 (by decide) k)))))) ?_
        refine s_sub [4, 5, 2, 1, 0] (al' := [(0, .ref (e_ad E a0)), (1, .int a1), (2, .int y23_4), (3, .int x37.1), (4, .int (y23_4 + 1))]) rfl ?_
        exact hL23 _ _ _ _
theorem c_X8_home (E : tkE) (h : tkH) (a0 : Nat) (a1 : Int32) (k0 : kd a0 = 11) : ∀ x, f_X8_home h a0 a1 = some x → tkM E yX8_home cX8_home 6 (some .int) 3 tkF [.ref (e_ad E a0), .int a1] h (some (.int x.1)) x.2 := fun x hx => tkM_of (by decide) (Nat.le_of_ble_eq_true rfl) (fun _ hR G => w_X8_home hR G h a0 a1 k0 x hx)
set_option maxRecDepth 100000 in
set_option maxHeartbeats 4000000 in
theorem w_X8_lay {E : tkE} {X : tkX} (hR : x_R X = tkR 3) (G : tkG E X cX8_lay 4 RX8 (some .int)) (h : tkH) (a0 : Nat) (a1 : Int32) (a2 : Int32) (k0 : kd a0 = 11) : tkS E X 4 0 0 (tkZi E X) 0 [(0, .ref (e_ad E a0)), (1, .int a1), (2, .int a2)] [] h (f_X8_lay h a0 a1 a2) := by
  unfold f_X8_lay
  refine s_v (fun _ k => tk_aload_n G dX8_lay_0 0 rfl (tk_gr G kX8 dX8_lay_1 wF_X8_10 k0 gR_8_0 (tk_iload_n G dX8_lay_4 1 rfl k))) ?_
  refine s_callVI (As := [.int a1]) G dX8_lay_5 wY_X0_hasTale wM_X8_76 wI_X0_hasTale wS_X0_hasTale (tk_rm hR (by decide) (by decide)) kX0 (kF_8_0 k0) (by decide) (c_X0_hasTale E h (fld a0 0) a1 (kF_8_0 k0)) rfl rfl (Nat.le_of_ble_eq_true rfl) ⟨Nat.zero_le _, Nat.zero_le _⟩ (fun x5 => ?_)
  have hJ19 : ∀ (g19 : tkH), tkS E X 4 0 0 (tkZi E X) 19 [(0, .ref (e_ad E a0))] [] g19 (f_X8_lay_J19 a0 g19) := by
    intro g19
    unfold f_X8_lay_J19
    refine s_v (fun _ k => tk_aload_n G dX8_lay_19 0 rfl (tk_ldc G dX8_lay_20 wK_X8_59 k)) ?_
    refine s_callVI (As := [.int (-100001)]) G dX8_lay_22 wY_X8_finding wM_X8_60 wI_X8_finding wS_X8_finding (tk_rm hR (by decide) (by decide)) kX8 k0 (by decide) (c_X8_finding E g19 a0 (-100001) k0) rfl rfl (Nat.le_of_ble_eq_true rfl) ⟨Nat.zero_le _, Nat.zero_le _⟩ (fun x22 => ?_)
    exact s_iret G dX8_lay_25
  refine s_if_eq (tgt := 19) G dX8_lay_8 (by decide) (fun q8 => ?_) (fun q8 => ?_)
  ·
    refine s_sub [0] (al' := [(0, .ref (e_ad E a0))]) rfl ?_
    exact hJ19 _
  ·
    refine s_v (fun _ k => tk_iload_n G dX8_lay_11 2 rfl (tk_iconst G dX8_lay_12 cI_4 k)) ?_
    refine s_callSI (As := [.int a2, .int 4]) G dX8_lay_13 wY_X8_isWithin wM_X8_55 wI_X8_isWithin (tk_rm hR (by decide) (by decide)) (c_X8_isWithin E x5.2 a2 4) rfl rfl (Nat.le_of_ble_eq_true rfl) ⟨Nat.zero_le _, Nat.zero_le _⟩ (fun x13 => ?_)
    refine s_if_ne (tgt := 26) G dX8_lay_16 (by decide) (fun q16 => ?_) (fun q16 => ?_)
    ·
      refine s_sub [0] (al' := [(0, .ref (e_ad E a0))]) rfl ?_
      exact hJ19 _
    ·
      refine s_v (fun _ k => tk_aload_n G dX8_lay_26 0 rfl (tk_gr G kX8 dX8_lay_27 wF_X8_46 k0 gR_8_5 (tk_iload_n G dX8_lay_30 2 rfl k))) ?_
      refine s_aaldS G dX8_lay_31 (kF_8_5 k0) (fun b31 kb31 => ?_)
      refine s_callVI (As := []) G dX8_lay_32 wY_X6_isMissing wM_X8_248 wI_X6_isMissing wS_X6_isMissing (tk_rm hR (by decide) (by decide)) kX6 kb31 (by decide) (c_X6_isMissing E x13.2 b31 kb31) rfl rfl (Nat.le_of_ble_eq_true rfl) ⟨Nat.zero_le _, Nat.zero_le _⟩ (fun x32 => ?_)
      refine s_if_eq (tgt := 45) G dX8_lay_35 (by decide) (fun q35 => ?_) (fun q35 => ?_)
      ·
        refine s_v (fun _ k => tk_aload_n G dX8_lay_45 0 rfl (tk_gr G kX8 dX8_lay_46 wF_X8_46 k0 gR_8_5 (tk_iload_n G dX8_lay_49 2 rfl k))) ?_
        refine s_aaldS G dX8_lay_50 (kF_8_5 k0) (fun b50 kb50 => ?_)
        refine s_callVI (As := []) G dX8_lay_51 wY_X6_tellsSteps wM_X8_271 wI_X6_tellsSteps wS_X6_tellsSteps (tk_rm hR (by decide) (by decide)) kX6 kb50 (by decide) (c_X6_tellsSteps E x32.2 b50 kb50) rfl rfl (Nat.le_of_ble_eq_true rfl) ⟨Nat.zero_le _, Nat.zero_le _⟩ (fun x51 => ?_)
        refine s_if_ne (tgt := 64) G dX8_lay_54 (by decide) (fun q54 => ?_) (fun q54 => ?_)
        ·
          refine s_v (fun _ k => tk_aload_n G dX8_lay_57 0 rfl (tk_ldc G dX8_lay_58 wK_X8_59 k)) ?_
          refine s_callVI (As := [.int (-100001)]) G dX8_lay_60 wY_X8_finding wM_X8_60 wI_X8_finding wS_X8_finding (tk_rm hR (by decide) (by decide)) kX8 k0 (by decide) (c_X8_finding E x51.2 a0 (-100001) k0) rfl rfl (Nat.le_of_ble_eq_true rfl) ⟨Nat.zero_le _, Nat.zero_le _⟩ (fun x60 => ?_)
          exact s_iret G dX8_lay_63
        ·
          refine s_v (fun _ k => tk_aload_n G dX8_lay_64 0 rfl (tk_gr G kX8 dX8_lay_65 wF_X8_19 k0 gR_8_1 (tk_aload_n G dX8_lay_68 0 rfl (tk_gr G kX8 dX8_lay_69 wF_X8_10 k0 gR_8_0 k)))) ?_
          refine s_callVV (As := [.ref (e_ad E (fld a0 0))]) G dX8_lay_72 wY_X3_keep wM_X8_68 wI_X3_keep wS_X3_keep (tk_rm hR (by decide) (by decide)) kX3 (kF_8_1 k0) (by decide) (c_X3_keep E x51.2 (fld a0 1) (fld a0 0) (kF_8_1 k0) (kF_8_0 k0)) rfl rfl (Nat.le_of_ble_eq_true rfl) ⟨Nat.zero_le _, Nat.zero_le _⟩ (fun x72 => ?_)
          refine s_v (fun _ k => tk_aload_n G dX8_lay_75 0 rfl (tk_gr G kX8 dX8_lay_76 wF_X8_26 k0 gR_8_2 (tk_iload_n G dX8_lay_79 1 rfl k))) ?_
          refine s_callVV (As := [.int a1]) G dX8_lay_80 wY_X2_forget wM_X8_102 wI_X2_forget wS_X2_forget (tk_rm hR (by decide) (by decide)) kX2 (kF_8_2 k0) (by decide) (c_X2_forget E x72 (fld a0 2) a1 (kF_8_2 k0)) rfl rfl (Nat.le_of_ble_eq_true rfl) ⟨Nat.zero_le _, Nat.zero_le _⟩ (fun x80 => ?_)
          refine s_v (fun _ k => tk_aload_n G dX8_lay_83 0 rfl (tk_gr G kX8 dX8_lay_84 wF_X8_10 k0 gR_8_0 (tk_gr G kX0 dX8_lay_87 wF_X8_92 (kF_8_0 k0) gR_0_5 (tk_iload_n G dX8_lay_90 1 rfl (tk_iconst G dX8_lay_91 cI_0 k))))) ?_
          refine s_iast G dX8_lay_92 (kF_0_5 (kF_8_0 k0)) (fun h92 => ?_)
          refine s_v (fun _ k => tk_iconst G dX8_lay_93 cI_0 (tk_istore_n (al' := [(3, .int 0), (0, .ref (e_ad E a0)), (1, .int a1), (2, .int a2)]) G dX8_lay_94 (by decide) rfl k)) ?_
          have hX132 : ∀ (gz132 : tkH), tkS E X 4 0 0 (tkZi E X) 132 [(0, .ref (e_ad E a0)), (1, .int a1)] [] gz132 ((rdI gz132 (fld (fld a0 0) 5) a1).bind fun v140 => some (v140, gz132)) := by
            intro gz132
            refine s_v (fun _ k => tk_aload_n G dX8_lay_132 0 rfl (tk_gr G kX8 dX8_lay_133 wF_X8_10 k0 gR_8_0 (tk_gr G kX0 dX8_lay_136 wF_X8_92 (kF_8_0 k0) gR_0_5 (tk_iload_n G dX8_lay_139 1 rfl k)))) ?_
            refine s_iald G dX8_lay_140 (kF_0_5 (kF_8_0 k0)) (fun v140 => ?_)
            exact s_iret G dX8_lay_141
          refine s_sub [1, 2, 3, 0] (al' := [(0, .ref (e_ad E a0)), (1, .int a1), (2, .int a2), (3, .int 0)]) rfl ?_
          unfold f_X8_lay_L95
          refine s_lp1 (al := fun y95_3 => [(0, .ref (e_ad E a0)), (1, .int a1), (2, .int a2), (3, .int y95_3)]) (fun kk95 hL95 g95 y95_3 => ?_) _ _ _
          refine s_v (fun _ k => tk_iload_n G dX8_lay_95 3 rfl (tk_aload_n G dX8_lay_96 0 rfl (tk_gr G kX8 dX8_lay_97 wF_X8_46 k0 gR_8_5 (tk_iload_n G dX8_lay_100 2 rfl k)))) ?_
          refine s_aaldS G dX8_lay_101 (kF_8_5 k0) (fun b101 kb101 => ?_)
          refine s_callVI (As := []) G dX8_lay_102 wY_X6_howManySteps wM_X8_274 wI_X6_howManySteps wS_X6_howManySteps (tk_rm hR (by decide) (by decide)) kX6 kb101 (by decide) (c_X6_howManySteps E g95 b101 kb101) rfl rfl (Nat.le_of_ble_eq_true rfl) ⟨Nat.zero_le _, Nat.zero_le _⟩ (fun x102 => ?_)
          refine s_icmp_ge (tgt := 132) G dX8_lay_105 (by decide) (fun q105 => ?_) (fun q105 => ?_)
          ·
            refine s_sub [0, 1] (al' := [(0, .ref (e_ad E a0)), (1, .int a1)]) rfl ?_
            exact hX132 _
          ·
            refine s_v (fun _ k => tk_aload_n G dX8_lay_108 0 rfl (tk_gr G kX8 dX8_lay_109 wF_X8_10 k0 gR_8_0 (tk_iload_n G dX8_lay_112 1 rfl (tk_aload_n G dX8_lay_113 0 rfl (tk_gr G kX8 dX8_lay_114 wF_X8_46 k0 gR_8_5 (tk_iload_n G dX8_lay_117 2 rfl k)))))) ?_
            refine s_aaldS G dX8_lay_118 (kF_8_5 k0) (fun b118 kb118 => ?_)
            refine s_v (fun _ k => tk_iload_n G dX8_lay_119 3 rfl k) ?_
            refine s_callVI (As := [.int y95_3]) G dX8_lay_120 wY_X6_stepAt wM_X8_278 wI_X6_stepAt wS_X6_stepAt (tk_rm hR (by decide) (by decide)) kX6 kb118 (by decide) (c_X6_stepAt E x102.2 b118 y95_3 kb118) rfl rfl (Nat.le_of_ble_eq_true rfl) ⟨Nat.zero_le _, Nat.zero_le _⟩ (fun x120 => ?_)
            refine s_callVV (As := [.int a1, .int x120.1]) G dX8_lay_123 wY_X0_addStep wM_X8_98 wI_X0_addStep wS_X0_addStep (tk_rm hR (by decide) (by decide)) kX0 (kF_8_0 k0) (by decide) (c_X0_addStep E x120.2 (fld a0 0) a1 x120.1 (kF_8_0 k0)) rfl rfl (Nat.le_of_ble_eq_true rfl) ⟨Nat.zero_le _, Nat.zero_le _⟩ (fun x123 => ?_)
            refine s_v (fun _ k => tk_iinc (al' := [(3, .int (y95_3 + 1)), (0, .ref (e_ad E a0)), (1, .int a1), (2, .int a2)]) G dX8_lay_126 3 rfl (ci_1 _) (by decide) rfl (tk_goto (tgt := 95) G dX8_lay_129 (by decide) k)) ?_
            refine s_sub [1, 2, 3, 0] (al' := [(0, .ref (e_ad E a0)), (1, .int a1), (2, .int a2), (3, .int (y95_3 + 1))]) rfl ?_
            exact hL95 _ _
      ·
        refine s_v (fun _ k => tk_aload_n G dX8_lay_38 0 rfl (tk_ldc G dX8_lay_39 wK_X8_252 k)) ?_
        refine s_callVI (As := [.int (-100002)]) G dX8_lay_41 wY_X8_finding wM_X8_60 wI_X8_finding wS_X8_finding (tk_rm hR (by decide) (by decide)) kX8 k0 (by decide) (c_X8_finding E x32.2 a0 (-100002) k0) rfl rfl (Nat.le_of_ble_eq_true rfl) ⟨Nat.zero_le _, Nat.zero_le _⟩ (fun x41 => ?_)
        exact s_iret G dX8_lay_44
theorem c_X8_lay (E : tkE) (h : tkH) (a0 : Nat) (a1 : Int32) (a2 : Int32) (k0 : kd a0 = 11) : ∀ x, f_X8_lay h a0 a1 a2 = some x → tkM E yX8_lay cX8_lay 4 (some .int) 3 tkF [.ref (e_ad E a0), .int a1, .int a2] h (some (.int x.1)) x.2 := fun x hx => tkM_of (by decide) (Nat.le_of_ble_eq_true rfl) (fun _ hR G => w_X8_lay hR G h a0 a1 a2 k0 x hx)
set_option maxRecDepth 100000 in
set_option maxHeartbeats 4000000 in
theorem w_X8_of {E : tkE} {X : tkX} (hR : x_R X = tkR 3) (G : tkG E X cX8_of 5 RX8 (some .int)) (h : tkH) (a0 : Nat) (a1 : Int32) (a2 : Int32) (a3 : Int32) (k0 : kd a0 = 11) : tkS E X 5 0 0 (tkZi E X) 0 [(0, .ref (e_ad E a0)), (1, .int a1), (2, .int a2), (3, .int a3)] [] h (f_X8_of h a0 a1 a2 a3) := by
  unfold f_X8_of
  refine s_v (fun _ k => tk_aload_n G dX8_of_0 0 rfl (tk_gr G kX8 dX8_of_1 wF_X8_10 k0 gR_8_0 (tk_iload_n G dX8_of_4 1 rfl (tk_iload_n G dX8_of_5 2 rfl k)))) ?_
  refine s_callVI (As := [.int a1, .int a2]) G dX8_of_6 wY_X0_hasStep wM_X8_107 wI_X0_hasStep wS_X0_hasStep (tk_rm hR (by decide) (by decide)) kX0 (kF_8_0 k0) (by decide) (c_X0_hasStep E h (fld a0 0) a1 a2 (kF_8_0 k0)) rfl rfl (Nat.le_of_ble_eq_true rfl) ⟨Nat.zero_le _, Nat.zero_le _⟩ (fun x6 => ?_)
  have hJ20 : ∀ (g20 : tkH), tkS E X 5 0 0 (tkZi E X) 20 [(0, .ref (e_ad E a0))] [] g20 (f_X8_of_J20 a0 g20) := by
    intro g20
    unfold f_X8_of_J20
    refine s_v (fun _ k => tk_aload_n G dX8_of_20 0 rfl (tk_ldc G dX8_of_21 wK_X8_59 k)) ?_
    refine s_callVI (As := [.int (-100001)]) G dX8_of_23 wY_X8_finding wM_X8_60 wI_X8_finding wS_X8_finding (tk_rm hR (by decide) (by decide)) kX8 k0 (by decide) (c_X8_finding E g20 a0 (-100001) k0) rfl rfl (Nat.le_of_ble_eq_true rfl) ⟨Nat.zero_le _, Nat.zero_le _⟩ (fun x23 => ?_)
    exact s_iret G dX8_of_26
  refine s_if_eq (tgt := 20) G dX8_of_9 (by decide) (fun q9 => ?_) (fun q9 => ?_)
  ·
    refine s_sub [0] (al' := [(0, .ref (e_ad E a0))]) rfl ?_
    exact hJ20 _
  ·
    refine s_v (fun _ k => tk_iload_n G dX8_of_12 3 rfl (tk_iconst G dX8_of_13 cI_3 k)) ?_
    refine s_callSI (As := [.int a3, .int 3]) G dX8_of_14 wY_X8_isWithin wM_X8_55 wI_X8_isWithin (tk_rm hR (by decide) (by decide)) (c_X8_isWithin E x6.2 a3 3) rfl rfl (Nat.le_of_ble_eq_true rfl) ⟨Nat.zero_le _, Nat.zero_le _⟩ (fun x14 => ?_)
    refine s_if_ne (tgt := 27) G dX8_of_17 (by decide) (fun q17 => ?_) (fun q17 => ?_)
    ·
      refine s_sub [0] (al' := [(0, .ref (e_ad E a0))]) rfl ?_
      exact hJ20 _
    ·
      refine s_v (fun _ k => tk_aload_n G dX8_of_27 0 rfl (tk_gr G kX8 dX8_of_28 wF_X8_10 k0 gR_8_0 (tk_iload_n G dX8_of_31 1 rfl (tk_iload_n G dX8_of_32 2 rfl k)))) ?_
      refine s_callVI (As := [.int a1, .int a2]) G dX8_of_33 wY_X0_stepAt wM_X8_110 wI_X0_stepAt wS_X0_stepAt (tk_rm hR (by decide) (by decide)) kX0 (kF_8_0 k0) (by decide) (c_X0_stepAt E x14.2 (fld a0 0) a1 a2 (kF_8_0 k0)) rfl rfl (Nat.le_of_ble_eq_true rfl) ⟨Nat.zero_le _, Nat.zero_le _⟩ (fun x33 => ?_)
      refine s_v (fun _ k => tk_istore (al' := [(4, .int x33.1), (0, .ref (e_ad E a0)), (1, .int a1), (2, .int a2), (3, .int a3)]) G dX8_of_36 (by decide) rfl (tk_iload_n G dX8_of_38 4 rfl k)) ?_
      refine s_if_ne (tgt := 50) G dX8_of_39 (by decide) (fun q39 => ?_) (fun q39 => ?_)
      ·
        refine s_v (fun _ k => tk_iload G dX8_of_42 0 rfl k) ?_
        refine s_callSI (As := [.int x33.1]) G dX8_of_44 wY_X8_motifOf wM_X8_114 wI_X8_motifOf (tk_rm hR (by decide) (by decide)) (c_X8_motifOf E x33.2 x33.1) rfl rfl (Nat.le_of_ble_eq_true rfl) ⟨Nat.zero_le _, Nat.zero_le _⟩ (fun x44 => ?_)
        refine s_v (fun _ k => tk_goto (tgt := 68) G dX8_of_47 (by decide) k) ?_
        exact s_iret G dX8_of_68
      ·
        refine s_v (fun _ k => tk_iload_n G dX8_of_50 4 rfl (tk_iconst G dX8_of_51 cI_1 k)) ?_
        refine s_icmp_ne (tgt := 63) G dX8_of_52 (by decide) (fun q52 => ?_) (fun q52 => ?_)
        ·
          refine s_v (fun _ k => tk_iload G dX8_of_55 0 rfl k) ?_
          refine s_callSI (As := [.int x33.1]) G dX8_of_57 wY_X8_whoOf wM_X8_117 wI_X8_whoOf (tk_rm hR (by decide) (by decide)) (c_X8_whoOf E x33.2 x33.1) rfl rfl (Nat.le_of_ble_eq_true rfl) ⟨Nat.zero_le _, Nat.zero_le _⟩ (fun x57 => ?_)
          refine s_v (fun _ k => tk_goto (tgt := 68) G dX8_of_60 (by decide) k) ?_
          exact s_iret G dX8_of_68
        ·
          refine s_v (fun _ k => tk_iload G dX8_of_63 0 rfl k) ?_
          refine s_callSI (As := [.int x33.1]) G dX8_of_65 wY_X8_whomOf wM_X8_120 wI_X8_whomOf (tk_rm hR (by decide) (by decide)) (c_X8_whomOf E x33.2 x33.1) rfl rfl (Nat.le_of_ble_eq_true rfl) ⟨Nat.zero_le _, Nat.zero_le _⟩ (fun x65 => ?_)
          exact s_iret G dX8_of_68
theorem c_X8_of (E : tkE) (h : tkH) (a0 : Nat) (a1 : Int32) (a2 : Int32) (a3 : Int32) (k0 : kd a0 = 11) : ∀ x, f_X8_of h a0 a1 a2 a3 = some x → tkM E yX8_of cX8_of 5 (some .int) 3 tkF [.ref (e_ad E a0), .int a1, .int a2, .int a3] h (some (.int x.1)) x.2 := fun x hx => tkM_of (by decide) (Nat.le_of_ble_eq_true rfl) (fun _ hR G => w_X8_of hR G h a0 a1 a2 a3 k0 x hx)
