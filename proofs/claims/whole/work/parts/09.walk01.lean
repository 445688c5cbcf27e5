set_option maxRecDepth 100000 in
set_option maxHeartbeats 4000000 in
theorem w_X0_isFramed {E : tkE} {X : tkX} (hR : x_R X = tkR 0) (G : tkG E X cX0_isFramed 2 RX0 (some .boolean)) (h : tkH) (a0 : Nat) (a1 : Int32) (k0 : kd a0 = 3) : tkS E X 2 0 0 (tkZi E X) 0 [(0, .ref (e_ad E a0)), (1, .int a1)] [] h (f_X0_isFramed h a0 a1) := by
  unfold f_X0_isFramed
  refine s_v (fun _ k => tk_aload_n G dX0_isFramed_0 0 rfl (tk_gr G kX0 dX0_isFramed_1 wF_X0_9 k0 gR_0_1 (tk_iload_n G dX0_isFramed_4 1 rfl k))) ?_
  refine s_iald G dX0_isFramed_5 (kF_0_1 k0) (fun v5 => ?_)
  refine s_v (fun _ k => tk_iconst G dX0_isFramed_6 cI_2 k) ?_
  refine s_icmp_ne (tgt := 24) G dX0_isFramed_7 (by decide) (fun q7 => ?_) (fun q7 => ?_)
  ·
    refine s_v (fun _ k => tk_aload_n G dX0_isFramed_10 0 rfl (tk_gr G kX0 dX0_isFramed_11 wF_X0_24 k0 gR_0_5 (tk_iload_n G dX0_isFramed_14 1 rfl k))) ?_
    refine s_iald G dX0_isFramed_15 (kF_0_5 k0) (fun v15 => ?_)
    refine s_v (fun _ k => tk_iconst G dX0_isFramed_16 cI_2 k) ?_
    refine s_icmp_lt (tgt := 24) G dX0_isFramed_17 (by decide) (fun q17 => ?_) (fun q17 => ?_)
    ·
      refine s_v (fun _ k => tk_iconst G dX0_isFramed_24 cI_0 k) ?_
      exact s_zret G dX0_isFramed_25 (by decide)
    ·
      refine s_v (fun _ k => tk_iconst G dX0_isFramed_20 cI_1 (tk_goto (tgt := 25) G dX0_isFramed_21 (by decide) k)) ?_
      exact s_zret G dX0_isFramed_25 (by decide)
  ·
    refine s_v (fun _ k => tk_iconst G dX0_isFramed_24 cI_0 k) ?_
    exact s_zret G dX0_isFramed_25 (by decide)
theorem c_X0_isFramed (E : tkE) (h : tkH) (a0 : Nat) (a1 : Int32) (k0 : kd a0 = 3) : ∀ x, f_X0_isFramed h a0 a1 = some x → tkM E yX0_isFramed cX0_isFramed 2 (some .boolean) 0 tkF [.ref (e_ad E a0), .int a1] h (some (.int x.1)) x.2 := fun x hx => tkM_of (by decide) (by decide) (fun _ hR G => w_X0_isFramed hR G h a0 a1 k0 x hx)
set_option maxRecDepth 100000 in
set_option maxHeartbeats 4000000 in
theorem w_X0_stepAt {E : tkE} {X : tkX} (hR : x_R X = tkR 0) (G : tkG E X cX0_stepAt 3 RX0 (some .int)) (h : tkH) (a0 : Nat) (a1 : Int32) (a2 : Int32) (k0 : kd a0 = 3) : tkS E X 3 0 0 (tkZi E X) 0 [(0, .ref (e_ad E a0)), (1, .int a1), (2, .int a2)] [] h (f_X0_stepAt h a0 a1 a2) := by
  unfold f_X0_stepAt
  refine s_v (fun _ k => tk_aload_n G dX0_stepAt_0 0 rfl (tk_gr G kX0 dX0_stepAt_1 wF_X0_27 k0 gR_0_6 (tk_iload_n G dX0_stepAt_4 1 rfl (tk_bipush G dX0_stepAt_5 cB_10 (tk_imul G dX0_stepAt_7 (tk_iload_n G dX0_stepAt_8 2 rfl (tk_iadd G dX0_stepAt_9 k))))))) ?_
  refine s_iald G dX0_stepAt_10 (kF_0_6 k0) (fun v10 => ?_)
  exact s_iret G dX0_stepAt_11
theorem c_X0_stepAt (E : tkE) (h : tkH) (a0 : Nat) (a1 : Int32) (a2 : Int32) (k0 : kd a0 = 3) : ∀ x, f_X0_stepAt h a0 a1 a2 = some x → tkM E yX0_stepAt cX0_stepAt 3 (some .int) 0 tkF [.ref (e_ad E a0), .int a1, .int a2] h (some (.int x.1)) x.2 := fun x hx => tkM_of (by decide) (by decide) (fun _ hR G => w_X0_stepAt hR G h a0 a1 a2 k0 x hx)
set_option maxRecDepth 100000 in
set_option maxHeartbeats 4000000 in
theorem w_X8_isWithin {E : tkE} {X : tkX} (hR : x_R X = tkR 0) (G : tkG E X cX8_isWithin 2 RX8 (some .boolean)) (h : tkH) (a0 : Int32) (a1 : Int32)  : tkS E X 2 0 0 (tkZi E X) 0 [(0, .int a0), (1, .int a1)] [] h (f_X8_isWithin h a0 a1) := by
  unfold f_X8_isWithin
  refine s_v (fun _ k => tk_iload_n G dX8_isWithin_0 0 rfl k) ?_
  refine s_if_lt (tgt := 13) G dX8_isWithin_1 (by decide) (fun q1 => ?_) (fun q1 => ?_)
  ·
    refine s_v (fun _ k => tk_iconst G dX8_isWithin_13 cI_0 k) ?_
    exact s_zret G dX8_isWithin_14 (by decide)
  ·
    refine s_v (fun _ k => tk_iload_n G dX8_isWithin_4 0 rfl (tk_iload_n G dX8_isWithin_5 1 rfl k)) ?_
    refine s_icmp_ge (tgt := 13) G dX8_isWithin_6 (by decide) (fun q6 => ?_) (fun q6 => ?_)
    ·
      refine s_v (fun _ k => tk_iconst G dX8_isWithin_13 cI_0 k) ?_
      exact s_zret G dX8_isWithin_14 (by decide)
    ·
      refine s_v (fun _ k => tk_iconst G dX8_isWithin_9 cI_1 (tk_goto (tgt := 14) G dX8_isWithin_10 (by decide) k)) ?_
      exact s_zret G dX8_isWithin_14 (by decide)
theorem c_X8_isWithin (E : tkE) (h : tkH) (a0 : Int32) (a1 : Int32)  : ∀ x, f_X8_isWithin h a0 a1 = some x → tkM E yX8_isWithin cX8_isWithin 2 (some .boolean) 0 tkF [.int a0, .int a1] h (some (.int x.1)) x.2 := fun x hx => tkM_of (by decide) (by decide) (fun _ hR G => w_X8_isWithin hR G h a0 a1  x hx)
set_option maxRecDepth 100000 in
set_option maxHeartbeats 4000000 in
theorem w_X8_motifOf {E : tkE} {X : tkX} (hR : x_R X = tkR 0) (G : tkG E X cX8_motifOf 1 RX8 (some .int)) (h : tkH) (a0 : Int32)  : tkS E X 1 0 0 (tkZi E X) 0 [(0, .int a0)] [] h (f_X8_motifOf h a0) := by
  unfold f_X8_motifOf
  refine s_v (fun _ k => tk_iload_n G dX8_motifOf_0 0 rfl (tk_iconst G dX8_motifOf_1 cI_4 (tk_ishr G dX8_motifOf_2 k))) ?_
  exact s_iret G dX8_motifOf_3
theorem c_X8_motifOf (E : tkE) (h : tkH) (a0 : Int32)  : ∀ x, f_X8_motifOf h a0 = some x → tkM E yX8_motifOf cX8_motifOf 1 (some .int) 0 tkF [.int a0] h (some (.int x.1)) x.2 := fun x hx => tkM_of (by decide) (by decide) (fun _ hR G => w_X8_motifOf hR G h a0  x hx)
set_option maxRecDepth 100000 in
set_option maxHeartbeats 4000000 in
theorem w_X0_hasTale {E : tkE} {X : tkX} (hR : x_R X = tkR 1) (G : tkG E X cX0_hasTale 2 RX0 (some .boolean)) (h : tkH) (a0 : Nat) (a1 : Int32) (k0 : kd a0 = 3) : tkS E X 2 0 0 (tkZi E X) 0 [(0, .ref (e_ad E a0)), (1, .int a1)] [] h (f_X0_hasTale h a0 a1) := by
  unfold f_X0_hasTale
  refine s_v (fun _ k => tk_iload_n G dX0_hasTale_0 1 rfl (tk_aload_n G dX0_hasTale_1 0 rfl (tk_gi G kX0 dX0_hasTale_2 wF_X0_36 k0 gI_0_0 k))) ?_
  refine s_callSNI (As := [.int a1, .int (h a0 0)]) G dX0_hasTale_5 wY_X8_isWithin wM_X0_46 wI_X8_isWithin (tk_rm hR (by decide) (by decide)) (c_X8_isWithin E h a1 (h a0 0)) rfl rfl (Nat.le_of_ble_eq_true rfl) ⟨Nat.zero_le _, Nat.zero_le _⟩ (fun x5 => ?_)
  exact s_zretG G dX0_hasTale_8
theorem c_X0_hasTale (E : tkE) (h : tkH) (a0 : Nat) (a1 : Int32) (k0 : kd a0 = 3) : ∀ x, f_X0_hasTale h a0 a1 = some x → tkM E yX0_hasTale cX0_hasTale 2 (some .boolean) 1 tkF [.ref (e_ad E a0), .int a1] h (some (.int x.1)) x.2 := fun x hx => tkM_of (by decide) (by decide) (fun _ hR G => w_X0_hasTale hR G h a0 a1 k0 x hx)
set_option maxRecDepth 100000 in
set_option maxHeartbeats 4000000 in
theorem w_X0_howOften {E : tkE} {X : tkX} (hR : x_R X = tkR 1) (G : tkG E X cX0_howOften 5 RX0 (some .int)) (h : tkH) (a0 : Nat) (a1 : Int32) (a2 : Int32) (k0 : kd a0 = 3) : tkS E X 5 0 0 (tkZi E X) 0 [(0, .ref (e_ad E a0)), (1, .int a1), (2, .int a2)] [] h (f_X0_howOften h a0 a1 a2) := by
  unfold f_X0_howOften
  refine s_v (fun _ k => tk_iconst G dX0_howOften_0 cI_0 (tk_istore_n (al' := [(3, .int 0), (0, .ref (e_ad E a0)), (1, .int a1), (2, .int a2)]) G dX0_howOften_1 (by decide) rfl (tk_iconst G dX0_howOften_2 cI_0 (tk_istore (al' := [(4, .int 0), (3, .int 0), (0, .ref (e_ad E a0)), (1, .int a1), (2, .int a2)]) G dX0_howOften_3 (by decide) rfl k)))) ?_
  refine s_sub [2, 3, 4, 1, 0] (al' := [(0, .ref (e_ad E a0)), (1, .int a1), (2, .int a2), (3, .int 0), (4, .int 0)]) rfl ?_
  unfold f_X0_howOften_L5
  refine s_lp2 (al := fun y5_3 y5_4 => [(0, .ref (e_ad E a0)), (1, .int a1), (2, .int a2), (3, .int y5_3), (4, .int y5_4)]) (fun kk5 hL5 g5 y5_3 y5_4 => ?_) _ _ _ _
  refine s_v (fun _ k => tk_iload G dX0_howOften_5 4 rfl (tk_aload_n G dX0_howOften_7 0 rfl (tk_gr G kX0 dX0_howOften_8 wF_X0_24 k0 gR_0_5 (tk_iload_n G dX0_howOften_11 2 rfl k)))) ?_
  refine s_iald G dX0_howOften_12 (kF_0_5 k0) (fun v12 => ?_)
  refine s_icmp_ge (tgt := 39) G dX0_howOften_13 (by decide) (fun q13 => ?_) (fun q13 => ?_)
  ·
    refine s_v (fun _ k => tk_iload_n G dX0_howOften_39 3 rfl k) ?_
    exact s_iret G dX0_howOften_40
  ·
    refine s_v (fun _ k => tk_aload_n G dX0_howOften_16 0 rfl (tk_iload_n G dX0_howOften_17 2 rfl (tk_iload G dX0_howOften_18 4 rfl k))) ?_
    refine s_callVI (As := [.int a2, .int y5_4]) G dX0_howOften_20 wY_X0_stepAt wM_X0_54 wI_X0_stepAt wS_X0_stepAt (tk_rm hR (by decide) (by decide)) kX0 k0 (by decide) (c_X0_stepAt E g5 a0 a2 y5_4 k0) rfl rfl (Nat.le_of_ble_eq_true rfl) ⟨Nat.zero_le _, Nat.zero_le _⟩ (fun x20 => ?_)
    refine s_callSNI (As := [.int x20.1]) G dX0_howOften_23 wY_X8_motifOf wM_X0_58 wI_X8_motifOf (tk_rm hR (by decide) (by decide)) (c_X8_motifOf E x20.2 x20.1) rfl rfl (Nat.le_of_ble_eq_true rfl) ⟨Nat.zero_le _, Nat.zero_le _⟩ (fun x23 => ?_)
    refine s_v (fun _ k => tk_iload_n G dX0_howOften_26 1 rfl k) ?_
    refine s_icmp_ne (tgt := 33) G dX0_howOften_27 (by decide) (fun q27 => ?_) (fun q27 => ?_)
    ·
      refine s_v (fun _ k => tk_iinc (al' := [(3, .int (y5_3 + 1)), (0, .ref (e_ad E a0)), (1, .int a1), (2, .int a2), (4, .int y5_4)]) G dX0_howOften_30 3 rfl (ci_1 _) (by decide) rfl (tk_iinc (al' := [(4, .int (y5_4 + 1)), (3, .int (y5_3 + 1)), (0, .ref (e_ad E a0)), (1, .int a1), (2, .int a2)]) G dX0_howOften_33 4 rfl (ci_1 _) (by decide) rfl (tk_goto (tgt := 5) G dX0_howOften_36 (by decide) k))) ?_
      refine s_sub [2, 3, 4, 1, 0] (al' := [(0, .ref (e_ad E a0)), (1, .int a1), (2, .int a2), (3, .int (y5_3 + 1)), (4, .int (y5_4 + 1))]) rfl ?_
      exact hL5 _ _ _
    ·
      refine s_v (fun _ k => tk_iinc (al' := [(4, .int (y5_4 + 1)), (0, .ref (e_ad E a0)), (1, .int a1), (2, .int a2), (3, .int y5_3)]) G dX0_howOften_33 4 rfl (ci_1 _) (by decide) rfl (tk_goto (tgt := 5) G dX0_howOften_36 (by decide) k)) ?_
      refine s_sub [1, 2, 3, 4, 0] (al' := [(0, .ref (e_ad E a0)), (1, .int a1), (2, .int a2), (3, .int y5_3), (4, .int (y5_4 + 1))]) rfl ?_
      exact hL5 _ _ _
theorem c_X0_howOften (E : tkE) (h : tkH) (a0 : Nat) (a1 : Int32) (a2 : Int32) (k0 : kd a0 = 3) : ∀ x, f_X0_howOften h a0 a1 a2 = some x → tkM E yX0_howOften cX0_howOften 5 (some .int) 1 tkF [.ref (e_ad E a0), .int a1, .int a2] h (some (.int x.1)) x.2 := fun x hx => tkM_of (by decide) (by decide) (fun _ hR G => w_X0_howOften hR G h a0 a1 a2 k0 x hx)
set_option maxRecDepth 100000 in
set_option maxHeartbeats 4000000 in
theorem w_X0_hasStep {E : tkE} {X : tkX} (hR : x_R X = tkR 2) (G : tkG E X cX0_hasStep 3 RX0 (some .boolean)) (h : tkH) (a0 : Nat) (a1 : Int32) (a2 : Int32) (k0 : kd a0 = 3) : tkS E X 3 0 0 (tkZi E X) 0 [(0, .ref (e_ad E a0)), (1, .int a1), (2, .int a2)] [] h (f_X0_hasStep h a0 a1 a2) := by
  unfold f_X0_hasStep
  refine s_v (fun _ k => tk_aload_n G dX0_hasStep_0 0 rfl (tk_iload_n G dX0_hasStep_1 1 rfl k)) ?_
  refine s_callVI (As := [.int a1]) G dX0_hasStep_2 wY_X0_hasTale wM_X0_50 wI_X0_hasTale wS_X0_hasTale (tk_rm hR (by decide) (by decide)) kX0 k0 (by decide) (c_X0_hasTale E h a0 a1 k0) rfl rfl (Nat.le_of_ble_eq_true rfl) ⟨Nat.zero_le _, Nat.zero_le _⟩ (fun x2 => ?_)
  refine s_if_eq (tgt := 25) G dX0_hasStep_5 (by decide) (fun q5 => ?_) (fun q5 => ?_)
  ·
    refine s_v (fun _ k => tk_iconst G dX0_hasStep_25 cI_0 k) ?_
    exact s_zret G dX0_hasStep_26 (by decide)
  ·
    refine s_v (fun _ k => tk_iload_n G dX0_hasStep_8 2 rfl (tk_aload_n G dX0_hasStep_9 0 rfl (tk_gr G kX0 dX0_hasStep_10 wF_X0_24 k0 gR_0_5 (tk_iload_n G dX0_hasStep_13 1 rfl k)))) ?_
    refine s_iald G dX0_hasStep_14 (kF_0_5 k0) (fun v14 => ?_)
    refine s_callSNI (As := [.int a2, .int v14]) G dX0_hasStep_15 wY_X8_isWithin wM_X0_46 wI_X8_isWithin (tk_rm hR (by decide) (by decide)) (c_X8_isWithin E x2.2 a2 v14) rfl rfl (Nat.le_of_ble_eq_true rfl) ⟨Nat.zero_le _, Nat.zero_le _⟩ (fun x15 => ?_)
    refine s_if_eq (tgt := 25) G dX0_hasStep_18 (by decide) (fun q18 => ?_) (fun q18 => ?_)
    ·
      refine s_v (fun _ k => tk_iconst G dX0_hasStep_25 cI_0 k) ?_
      exact s_zret G dX0_hasStep_26 (by decide)
    ·
      refine s_v (fun _ k => tk_iconst G dX0_hasStep_21 cI_1 (tk_goto (tgt := 26) G dX0_hasStep_22 (by decide) k)) ?_
      exact s_zret G dX0_hasStep_26 (by decide)
theorem c_X0_hasStep (E : tkE) (h : tkH) (a0 : Nat) (a1 : Int32) (a2 : Int32) (k0 : kd a0 = 3) : ∀ x, f_X0_hasStep h a0 a1 a2 = some x → tkM E yX0_hasStep cX0_hasStep 3 (some .boolean) 2 tkF [.ref (e_ad E a0), .int a1, .int a2] h (some (.int x.1)) x.2 := fun x hx => tkM_of (by decide) (by decide) (fun _ hR G => w_X0_hasStep hR G h a0 a1 a2 k0 x hx)
