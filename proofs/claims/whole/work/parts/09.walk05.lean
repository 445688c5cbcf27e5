set_option maxRecDepth 100000 in
set_option maxHeartbeats 4000000 in
theorem w_X8_source {E : tkE} {X : tkX} (hR : x_R X = tkR 6) (G : tkG E X cX8_source 3 RX8 (some .int)) (h : tkH) (a0 : Nat) (a1 : Int32) (k0 : kd a0 = 11) : tkS E X 3 0 0 (tkZi E X) 0 [(0, .ref (e_ad E a0)), (1, .int a1)] [] h (f_X8_source h a0 a1) := by
  unfold f_X8_source
  refine s_v (fun _ k => tk_aload_n G dX8_source_0 0 rfl (tk_gr G kX8 dX8_source_1 wF_X8_10 k0 gR_8_0 (tk_iload_n G dX8_source_4 1 rfl k))) ?_
  refine s_callVI (As := [.int a1]) G dX8_source_5 wY_X0_hasTale wM_X8_76 wI_X0_hasTale wS_X0_hasTale (tk_rm hR (by decide) (by decide)) kX0 (kF_8_0 k0) (by decide) (c_X0_hasTale E h (fld a0 0) a1 (kF_8_0 k0)) rfl rfl (Nat.le_of_ble_eq_true rfl) ⟨Nat.zero_le _, Nat.zero_le _⟩ (fun x5 => ?_)
  refine s_if_ne (tgt := 18) G dX8_source_8 (by decide) (fun q8 => ?_) (fun q8 => ?_)
  ·
    refine s_v (fun _ k => tk_aload_n G dX8_source_11 0 rfl (tk_ldc G dX8_source_12 wK_X8_59 k)) ?_
    refine s_callVI (As := [.int (-100001)]) G dX8_source_14 wY_X8_finding wM_X8_60 wI_X8_finding wS_X8_finding (tk_rm hR (by decide) (by decide)) kX8 k0 (by decide) (c_X8_finding E x5.2 a0 (-100001) k0) rfl rfl (Nat.le_of_ble_eq_true rfl) ⟨Nat.zero_le _, Nat.zero_le _⟩ (fun x14 => ?_)
    exact s_iret G dX8_source_17
  ·
    refine s_v (fun _ k => tk_aload_n G dX8_source_18 0 rfl (tk_iload_n G dX8_source_19 1 rfl k)) ?_
    refine s_callVI (As := [.int a1]) G dX8_source_20 wY_X8_sourceOf wM_X8_218 wI_X8_sourceOf wS_X8_sourceOf (tk_rm hR (by decide) (by decide)) kX8 k0 (by decide) (c_X8_sourceOf E x5.2 a0 a1 k0) rfl rfl (Nat.le_of_ble_eq_true rfl) ⟨Nat.zero_le _, Nat.zero_le _⟩ (fun x20 => ?_)
    refine s_v (fun _ k => tk_istore_n (al' := [(2, .int x20.1), (0, .ref (e_ad E a0)), (1, .int a1)]) G dX8_source_23 (by decide) rfl (tk_iload_n G dX8_source_24 0 rfl k)) ?_
    refine s_if_ge (tgt := 37) G dX8_source_25 (by decide) (fun q25 => ?_) (fun q25 => ?_)
    ·
      refine s_v (fun _ k => tk_iload_n G dX8_source_37 0 rfl k) ?_
      exact s_iret G dX8_source_38
    ·
      refine s_v (fun _ k => tk_aload_n G dX8_source_28 1 rfl (tk_ldc G dX8_source_29 wK_X8_106 k)) ?_
      refine s_callVI (As := [.int (-100006)]) G dX8_source_31 wY_X8_finding wM_X8_60 wI_X8_finding wS_X8_finding (tk_rm hR (by decide) (by decide)) kX8 k0 (by decide) (c_X8_finding E x20.2 a0 (-100006) k0) rfl rfl (Nat.le_of_ble_eq_true rfl) ⟨Nat.zero_le _, Nat.zero_le _⟩ (fun x31 => ?_)
      refine s_v (fun _ k => tk_goto (tgt := 38) G dX8_source_34 (by decide) k) ?_
      exact s_iret G dX8_source_38
theorem c_X8_source (E : tkE) (h : tkH) (a0 : Nat) (a1 : Int32) (k0 : kd a0 = 11) : ∀ x, f_X8_source h a0 a1 = some x → tkM E yX8_source cX8_source 3 (some .int) 6 tkF [.ref (e_ad E a0), .int a1] h (some (.int x.1)) x.2 := fun x hx => tkM_of (by decide) (Nat.le_of_ble_eq_true rfl) (fun _ hR G => w_X8_source hR G h a0 a1 k0 x hx)
set_option maxRecDepth 100000 in
set_option maxHeartbeats 4000000 in
theorem w_X9_carried {E : tkE} {X : tkX} (hR : x_R X = tkR 6) (G : tkG E X cX9_carried 5 RX9 (some .int)) (h : tkH) (a0 : Nat) (a1 : Int32) (a2 : Int32) (a3 : Int32) (k0 : kd a0 = 12) : tkS E X 5 0 0 (tkZi E X) 0 [(0, .ref (e_ad E a0)), (1, .int a1), (2, .int a2), (3, .int a3)] [] h (f_X9_carried h a0 a1 a2 a3) := by
  unfold f_X9_carried
  refine s_v (fun _ k => tk_aload_n G dX9_carried_0 0 rfl (tk_iload_n G dX9_carried_1 1 rfl k)) ?_
  refine s_callVI (As := [.int a1]) G dX9_carried_2 wY_X9_isTale wM_X9_71 wI_X9_isTale wS_X9_isTale (tk_rm hR (by decide) (by decide)) kX9 k0 (by decide) (c_X9_isTale E h a0 a1 k0) rfl rfl (Nat.le_of_ble_eq_true rfl) ⟨Nat.zero_le _, Nat.zero_le _⟩ (fun x2 => ?_)
  have hJ23 : ∀ (g23 : tkH), tkS E X 5 0 0 (tkZi E X) 23 [(0, .ref (e_ad E a0))] [] g23 (f_X9_carried_J23 a0 g23) := by
    intro g23
    unfold f_X9_carried_J23
    refine s_v (fun _ k => tk_aload_n G dX9_carried_23 0 rfl (tk_ldc G dX9_carried_24 wK_X9_66 k)) ?_
    refine s_callVI (As := [.int (-100001)]) G dX9_carried_26 wY_X9_finding wM_X9_58 wI_X9_finding wS_X9_finding (tk_rm hR (by decide) (by decide)) kX9 k0 (by decide) (c_X9_finding E g23 a0 (-100001) k0) rfl rfl (Nat.le_of_ble_eq_true rfl) ⟨Nat.zero_le _, Nat.zero_le _⟩ (fun x26 => ?_)
    exact s_iret G dX9_carried_29
  refine s_if_eq (tgt := 23) G dX9_carried_5 (by decide) (fun q5 => ?_) (fun q5 => ?_)
  ·
    refine s_sub [0] (al' := [(0, .ref (e_ad E a0))]) rfl ?_
    exact hJ23 _
  ·
    refine s_v (fun _ k => tk_aload_n G dX9_carried_8 0 rfl (tk_iload_n G dX9_carried_9 2 rfl k)) ?_
    refine s_callVI (As := [.int a2]) G dX9_carried_10 wY_X9_isTale wM_X9_71 wI_X9_isTale wS_X9_isTale (tk_rm hR (by decide) (by decide)) kX9 k0 (by decide) (c_X9_isTale E x2.2 a0 a2 k0) rfl rfl (Nat.le_of_ble_eq_true rfl) ⟨Nat.zero_le _, Nat.zero_le _⟩ (fun x10 => ?_)
    refine s_if_eq (tgt := 23) G dX9_carried_13 (by decide) (fun q13 => ?_) (fun q13 => ?_)
    ·
      refine s_sub [0] (al' := [(0, .ref (e_ad E a0))]) rfl ?_
      exact hJ23 _
    ·
      refine s_v (fun _ k => tk_iload_n G dX9_carried_16 3 rfl k) ?_
      refine s_callSI (As := [.int a3]) G dX9_carried_17 wY_X9_isRole wM_X9_78 wI_X9_isRole (tk_rm hR (by decide) (by decide)) (c_X9_isRole E x10.2 a3) rfl rfl (Nat.le_of_ble_eq_true rfl) ⟨Nat.zero_le _, Nat.zero_le _⟩ (fun x17 => ?_)
      refine s_if_ne (tgt := 30) G dX9_carried_20 (by decide) (fun q20 => ?_) (fun q20 => ?_)
      ·
        refine s_sub [0] (al' := [(0, .ref (e_ad E a0))]) rfl ?_
        exact hJ23 _
      ·
        refine s_v (fun _ k => tk_aload_n G dX9_carried_30 0 rfl (tk_iload_n G dX9_carried_31 1 rfl (tk_iload_n G dX9_carried_32 2 rfl k))) ?_
        refine s_callVI (As := [.int a1, .int a2]) G dX9_carried_33 wY_X9_costOf wM_X9_172 wI_X9_costOf wS_X9_costOf (tk_rm hR (by decide) (by decide)) kX9 k0 (by decide) (c_X9_costOf E x17.2 a0 a1 a2 k0) rfl rfl (Nat.le_of_ble_eq_true rfl) ⟨Nat.zero_le _, Nat.zero_le _⟩ (fun x33 => ?_)
        refine s_v (fun _ k => tk_istore (al' := [(4, .int x33.1), (0, .ref (e_ad E a0)), (1, .int a1), (2, .int a2), (3, .int a3)]) G dX9_carried_36 (by decide) rfl (tk_aload_n G dX9_carried_38 1 rfl (tk_aload_n G dX9_carried_39 1 rfl (tk_gi G kX9 dX9_carried_40 wF_X9_161 k0 gI_9_17 k)))) ?_
        refine s_callVV (As := [.int ((x33.2) a0 17)]) G dX9_carried_43 wY_X9_carry wM_X9_148 wI_X9_carry wS_X9_carry (tk_rm hR (by decide) (by decide)) kX9 k0 (by decide) (c_X9_carry E x33.2 a0 ((x33.2) a0 17) k0) rfl rfl (Nat.le_of_ble_eq_true rfl) ⟨Nat.zero_le _, Nat.zero_le _⟩ (fun x43 => ?_)
        refine s_v (fun _ k => tk_aload_n G dX9_carried_46 1 rfl (tk_gr G kX9 dX9_carried_47 wF_X9_25 k0 gR_9_7 (tk_iload_n G dX9_carried_50 4 rfl k))) ?_
        refine s_iald G dX9_carried_51 (kF_9_7 k0) (fun v51 => ?_)
        exact s_iret G dX9_carried_52
theorem c_X9_carried (E : tkE) (h : tkH) (a0 : Nat) (a1 : Int32) (a2 : Int32) (a3 : Int32) (k0 : kd a0 = 12) : ∀ x, f_X9_carried h a0 a1 a2 a3 = some x → tkM E yX9_carried cX9_carried 5 (some .int) 6 tkF [.ref (e_ad E a0), .int a1, .int a2, .int a3] h (some (.int x.1)) x.2 := fun x hx => tkM_of (by decide) (Nat.le_of_ble_eq_true rfl) (fun _ hR G => w_X9_carried hR G h a0 a1 a2 a3 k0 x hx)
set_option maxRecDepth 100000 in
set_option maxHeartbeats 4000000 in
theorem w_X9_cost {E : tkE} {X : tkX} (hR : x_R X = tkR 6) (G : tkG E X cX9_cost 3 RX9 (some .int)) (h : tkH) (a0 : Nat) (a1 : Int32) (a2 : Int32) (k0 : kd a0 = 12) : tkS E X 3 0 0 (tkZi E X) 0 [(0, .ref (e_ad E a0)), (1, .int a1), (2, .int a2)] [] h (f_X9_cost h a0 a1 a2) := by
  unfold f_X9_cost
  refine s_v (fun _ k => tk_aload_n G dX9_cost_0 0 rfl (tk_iload_n G dX9_cost_1 1 rfl k)) ?_
  refine s_callVI (As := [.int a1]) G dX9_cost_2 wY_X9_isTale wM_X9_71 wI_X9_isTale wS_X9_isTale (tk_rm hR (by decide) (by decide)) kX9 k0 (by decide) (c_X9_isTale E h a0 a1 k0) rfl rfl (Nat.le_of_ble_eq_true rfl) ⟨Nat.zero_le _, Nat.zero_le _⟩ (fun x2 => ?_)
  have hJ25 : ∀ (g25 : tkH), tkS E X 3 0 0 (tkZi E X) 25 [(0, .ref (e_ad E a0))] [] g25 (f_X9_cost_J25 a0 g25) := by
    intro g25
    unfold f_X9_cost_J25
    refine s_v (fun _ k => tk_aload_n G dX9_cost_25 0 rfl (tk_ldc G dX9_cost_26 wK_X9_66 k)) ?_
    refine s_callVI (As := [.int (-100001)]) G dX9_cost_28 wY_X9_finding wM_X9_58 wI_X9_finding wS_X9_finding (tk_rm hR (by decide) (by decide)) kX9 k0 (by decide) (c_X9_finding E g25 a0 (-100001) k0) rfl rfl (Nat.le_of_ble_eq_true rfl) ⟨Nat.zero_le _, Nat.zero_le _⟩ (fun x28 => ?_)
    exact s_iret G dX9_cost_31
  refine s_if_eq (tgt := 25) G dX9_cost_5 (by decide) (fun q5 => ?_) (fun q5 => ?_)
  ·
    refine s_sub [0] (al' := [(0, .ref (e_ad E a0))]) rfl ?_
    exact hJ25 _
  ·
    refine s_v (fun _ k => tk_aload_n G dX9_cost_8 0 rfl (tk_iload_n G dX9_cost_9 2 rfl k)) ?_
    refine s_callVI (As := [.int a2]) G dX9_cost_10 wY_X9_isTale wM_X9_71 wI_X9_isTale wS_X9_isTale (tk_rm hR (by decide) (by decide)) kX9 k0 (by decide) (c_X9_isTale E x2.2 a0 a2 k0) rfl rfl (Nat.le_of_ble_eq_true rfl) ⟨Nat.zero_le _, Nat.zero_le _⟩ (fun x10 => ?_)
    refine s_if_eq (tgt := 25) G dX9_cost_13 (by decide) (fun q13 => ?_) (fun q13 => ?_)
    ·
      refine s_sub [0] (al' := [(0, .ref (e_ad E a0))]) rfl ?_
      exact hJ25 _
    ·
      refine s_v (fun _ k => tk_aload_n G dX9_cost_16 0 rfl (tk_iload_n G dX9_cost_17 1 rfl (tk_iload_n G dX9_cost_18 2 rfl k))) ?_
      refine s_callVI (As := [.int a1, .int a2]) G dX9_cost_19 wY_X9_costOf wM_X9_172 wI_X9_costOf wS_X9_costOf (tk_rm hR (by decide) (by decide)) kX9 k0 (by decide) (c_X9_costOf E x10.2 a0 a1 a2 k0) rfl rfl (Nat.le_of_ble_eq_true rfl) ⟨Nat.zero_le _, Nat.zero_le _⟩ (fun x19 => ?_)
      refine s_v (fun _ k => tk_goto (tgt := 31) G dX9_cost_22 (by decide) k) ?_
      exact s_iret G dX9_cost_31
theorem c_X9_cost (E : tkE) (h : tkH) (a0 : Nat) (a1 : Int32) (a2 : Int32) (k0 : kd a0 = 12) : ∀ x, f_X9_cost h a0 a1 a2 = some x → tkM E yX9_cost cX9_cost 3 (some .int) 6 tkF [.ref (e_ad E a0), .int a1, .int a2] h (some (.int x.1)) x.2 := fun x hx => tkM_of (by decide) (Nat.le_of_ble_eq_true rfl) (fun _ hR G => w_X9_cost hR G h a0 a1 a2 k0 x hx)
set_option maxRecDepth 100000 in
set_option maxHeartbeats 4000000 in
theorem w_X9_findPairs {E : tkE} {X : tkX} (hR : x_R X = tkR 6) (G : tkG E X cX9_findPairs 8 RX9 none) (h : tkH) (a0 : Nat) (a1 : Int32) (a2 : Int32) (k0 : kd a0 = 12) : tkS E X 8 0 0 (tkZv E X) 0 [(0, .ref (e_ad E a0)), (1, .int a1), (2, .int a2)] [] h (f_X9_findPairs h a0 a1 a2) := by
  unfold f_X9_findPairs
  refine s_v (fun _ k => tk_aload_n G dX9_findPairs_0 0 rfl (tk_iload_n G dX9_findPairs_1 1 rfl (tk_iload_n G dX9_findPairs_2 2 rfl k))) ?_
  refine s_callVI (As := [.int a1, .int a2]) G dX9_findPairs_3 wY_X9_costOf wM_X9_172 wI_X9_costOf wS_X9_costOf (tk_rm hR (by decide) (by decide)) kX9 k0 (by decide) (c_X9_costOf E h a0 a1 a2 k0) rfl rfl (Nat.le_of_ble_eq_true rfl) ⟨Nat.zero_le _, Nat.zero_le _⟩ (fun x3 => ?_)
  refine s_v (fun _ k => tk_istore_n (al' := [(3, .int x3.1), (0, .ref (e_ad E a0)), (1, .int a1), (2, .int a2)]) G dX9_findPairs_6 (by decide) rfl (tk_aload_n G dX9_findPairs_7 1 rfl (tk_aload_n G dX9_findPairs_8 1 rfl (tk_gi G kX9 dX9_findPairs_9 wF_X9_161 k0 gI_9_17 k)))) ?_
  refine s_callVI (As := [.int ((x3.2) a0 17)]) G dX9_findPairs_12 wY_X9_layBy wM_X9_158 wI_X9_layBy wS_X9_layBy (tk_rm hR (by decide) (by decide)) kX9 k0 (by decide) (c_X9_layBy E x3.2 a0 ((x3.2) a0 17) k0) rfl rfl (Nat.le_of_ble_eq_true rfl) ⟨Nat.zero_le _, Nat.zero_le _⟩ (fun x12 => ?_)
  refine s_v (fun _ k => tk_istore_n (al' := [(3, .int x12.1), (0, .ref (e_ad E a0)), (1, .int a1), (2, .int a2)]) G dX9_findPairs_15 (by decide) rfl (tk_iconst G dX9_findPairs_16 cI_0 (tk_istore (al' := [(4, .int 0), (3, .int x12.1), (0, .ref (e_ad E a0)), (1, .int a1), (2, .int a2)]) G dX9_findPairs_17 (by decide) rfl k))) ?_
  have hX40 : ∀ (gz40 : tkH), tkS E X 8 0 0 (tkZv E X) 40 [(0, .ref (e_ad E a0)), (3, .int x12.1)] [] gz40 ((f_X9_pairsLeft gz40 a0 (gz40 a0 9) (gz40 a0 13)).bind fun x57 => if x57.1 = x12.1 then (f_X9_findPairs_J69 a0 gz40 x12 x57.2 1) else (f_X9_findPairs_J69 a0 gz40 x12 x57.2 0)) := by
    intro gz40
    refine s_v (fun _ k => tk_aload_n G dX9_findPairs_40 0 rfl (tk_gi G kX9 dX9_findPairs_41 wF_X9_107 k0 gI_9_9 (tk_istore (al' := [(4, .int (gz40 a0 9)), (0, .ref (e_ad E a0)), (3, .int x12.1)]) G dX9_findPairs_44 (by decide) rfl (tk_aload_n G dX9_findPairs_46 1 rfl (tk_gi G kX9 dX9_findPairs_47 wF_X9_127 k0 gI_9_13 (tk_istore (al' := [(5, .int (gz40 a0 13)), (4, .int (gz40 a0 9)), (0, .ref (e_ad E a0)), (3, .int x12.1)]) G dX9_findPairs_50 (by decide) rfl (tk_aload_n G dX9_findPairs_52 2 rfl (tk_iload G dX9_findPairs_53 1 rfl (tk_iload G dX9_findPairs_55 0 rfl k))))))))) ?_
    refine s_callVI (As := [.int (gz40 a0 9), .int (gz40 a0 13)]) G dX9_findPairs_57 wY_X9_pairsLeft wM_X9_136 wI_X9_pairsLeft wS_X9_pairsLeft (tk_rm hR (by decide) (by decide)) kX9 k0 (by decide) (c_X9_pairsLeft E gz40 a0 (gz40 a0 9) (gz40 a0 13) k0) rfl rfl (Nat.le_of_ble_eq_true rfl) ⟨Nat.zero_le _, Nat.zero_le _⟩ (fun x57 => ?_)
    refine s_v (fun _ k => tk_iload_n G dX9_findPairs_60 3 rfl k) ?_
    have hJ69 : ∀ (g69 : tkH) (t69_0 : Int32), tkS E X 8 0 0 (tkZv E X) 69 [(0, .ref (e_ad E a0)), (3, .int x12.1), (4, .int (gz40 a0 9)), (5, .int (gz40 a0 13))] [.int t69_0] g69 (f_X9_findPairs_J69 a0 gz40 x12 g69 t69_0) := by
      intro g69 t69_0
      unfold f_X9_findPairs_J69
      refine s_v (fun _ k => tk_istore (al' := [(6, .int t69_0), (0, .ref (e_ad E a0)), (3, .int x12.1), (4, .int (gz40 a0 9)), (5, .int (gz40 a0 13))]) G dX9_findPairs_69 (by decide) rfl (tk_aload_n G dX9_findPairs_71 1 rfl (tk_iload G dX9_findPairs_72 3 rfl (tk_iload G dX9_findPairs_74 4 rfl k)))) ?_
      refine s_callVI (As := [.int (gz40 a0 9), .int (gz40 a0 13)]) G dX9_findPairs_76 wY_X9_endCost wM_X9_140 wI_X9_endCost wS_X9_endCost (tk_rm hR (by decide) (by decide)) kX9 k0 (by decide) (c_X9_endCost E g69 a0 (gz40 a0 9) (gz40 a0 13) k0) rfl rfl (Nat.le_of_ble_eq_true rfl) ⟨Nat.zero_le _, Nat.zero_le _⟩ (fun x76 => ?_)
      refine s_v (fun _ k => tk_iload_n G dX9_findPairs_79 2 rfl k) ?_
      have hJ88 : ∀ (g88 : tkH) (t88_0 : Int32), tkS E X 8 0 0 (tkZv E X) 88 [(0, .ref (e_ad E a0)), (3, .int x12.1), (4, .int (gz40 a0 9)), (5, .int (gz40 a0 13)), (6, .int t69_0)] [.int t88_0] g88 (f_X9_findPairs_J88 a0 x12 gz40 t69_0 g88 t88_0) := by
        intro g88 t88_0
        unfold f_X9_findPairs_J88
        refine s_v (fun _ k => tk_istore (al' := [(7, .int t88_0), (0, .ref (e_ad E a0)), (3, .int x12.1), (4, .int (gz40 a0 9)), (5, .int (gz40 a0 13)), (6, .int t69_0)]) G dX9_findPairs_88 (by decide) rfl k) ?_
        refine s_sub [1, 2, 3, 4, 5, 0] (al' := [(0, .ref (e_ad E a0)), (3, .int x12.1), (4, .int (gz40 a0 9)), (5, .int (gz40 a0 13)), (6, .int t69_0), (7, .int t88_0)]) rfl ?_
        unfold f_X9_findPairs_L90
        refine s_lp5 (al := fun y90_3 y90_4 y90_5 y90_6 y90_7 => [(0, .ref (e_ad E a0)), (3, .int y90_3), (4, .int y90_4), (5, .int y90_5), (6, .int y90_6), (7, .int y90_7)]) (fun kk90 hL90 g90 y90_3 y90_4 y90_5 y90_6 y90_7 => ?_) _ _ _ _ _ _ _
        refine s_v (fun _ k => tk_iload G dX9_findPairs_90 4 rfl k) ?_
        refine s_if_eq (tgt := 285) G dX9_findPairs_92 (by decide) (fun q92 => ?_) (fun q92 => ?_)
        ·
          exact s_vret G dX9_findPairs_285
        ·
          refine s_v (fun _ k => tk_iload G dX9_findPairs_95 2 rfl (tk_aload_n G dX9_findPairs_97 0 rfl (tk_gi G kX9 dX9_findPairs_98 wF_X9_110 k0 gI_9_10 k))) ?_
          have hJ205 : ∀ (g205 : tkH), tkS E X 8 0 0 (tkZv E X) 205 [(0, .ref (e_ad E a0)), (3, .int y90_3), (4, .int y90_4), (5, .int y90_5), (6, .int y90_6), (7, .int y90_7)] [] g205 (f_X9_findPairs_J205 a0 y90_4 y90_7 kk90 y90_3 y90_5 y90_6 g205) := by
            intro g205
            unfold f_X9_findPairs_J205
            refine s_v (fun _ k => tk_iload G dX9_findPairs_205 2 rfl (tk_aload_n G dX9_findPairs_207 0 rfl (tk_gi G kX9 dX9_findPairs_208 wF_X9_110 k0 gI_9_10 k))) ?_
            have hJ250 : ∀ (g250 : tkH), tkS E X 8 0 0 (tkZv E X) 250 [(0, .ref (e_ad E a0)), (3, .int y90_3), (4, .int y90_4), (5, .int y90_5), (6, .int y90_6), (7, .int y90_7)] [] g250 (f_X9_findPairs_J250 y90_7 a0 kk90 y90_3 y90_4 y90_5 y90_6 g250) := by
              intro g250
              unfold f_X9_findPairs_J250
              refine s_v (fun _ k => tk_iload G dX9_findPairs_250 5 rfl k) ?_
              have hJ270 : ∀ (g270 : tkH), tkS E X 8 0 0 (tkZv E X) 270 [(0, .ref (e_ad E a0)), (3, .int y90_3), (4, .int y90_4), (5, .int y90_5), (6, .int y90_6), (7, .int y90_7)] [] g270 (f_X9_findPairs_J270 a0 kk90 y90_3 y90_4 y90_5 y90_6 y90_7 g270) := by
                intro g270
                unfold f_X9_findPairs_J270
                refine s_v (fun _ k => tk_iload_n G dX9_findPairs_270 1 rfl (tk_aload_n G dX9_findPairs_271 0 rfl (tk_gr G kX9 dX9_findPairs_272 wF_X9_9 k0 gR_9_0 (tk_iconst G dX9_findPairs_275 cI_3 k)))) ?_
                refine s_iald G dX9_findPairs_276 (kF_9_0 k0) (fun v276 => ?_)
                refine s_v (fun _ k => tk_isub G dX9_findPairs_277 (tk_istore_n (al' := [(3, .int (y90_3 - v276)), (0, .ref (e_ad E a0)), (4, .int y90_4), (5, .int y90_5), (6, .int y90_6), (7, .int y90_7)]) G dX9_findPairs_278 (by decide) rfl (tk_iinc (al' := [(5, .int (y90_5 + 1)), (3, .int (y90_3 - v276)), (0, .ref (e_ad E a0)), (4, .int y90_4), (6, .int y90_6), (7, .int y90_7)]) G dX9_findPairs_279 3 rfl (ci_1 _) (by decide) rfl (tk_goto (tgt := 90) G dX9_findPairs_282 (by decide) k)))) ?_
                refine s_sub [2, 1, 3, 0, 4, 5] (al' := [(0, .ref (e_ad E a0)), (3, .int (y90_3 - v276)), (4, .int y90_4), (5, .int (y90_5 + 1)), (6, .int y90_6), (7, .int y90_7)]) rfl ?_
                exact hL90 _ _ _ _ _ _
              refine s_if_eq (tgt := 270) G dX9_findPairs_252 (by decide) (fun q252 => ?_) (fun q252 => ?_)
              ·
                exact hJ270 _
              ·
                refine s_v (fun _ k => tk_iload G dX9_findPairs_255 2 rfl (tk_aload_n G dX9_findPairs_257 0 rfl (tk_gi G kX9 dX9_findPairs_258 wF_X9_110 k0 gI_9_10 k))) ?_
                refine s_icmp_ge (tgt := 270) G dX9_findPairs_261 (by decide) (fun q261 => ?_) (fun q261 => ?_)
                ·
                  exact hJ270 _
                ·
                  refine s_v (fun _ k => tk_iconst G dX9_findPairs_264 cI_0 (tk_istore (al' := [(6, .int 0), (0, .ref (e_ad E a0)), (3, .int y90_3), (4, .int y90_4), (5, .int y90_5), (7, .int y90_7)]) G dX9_findPairs_265 (by decide) rfl (tk_goto (tgt := 90) G dX9_findPairs_267 (by decide) k))) ?_
                  refine s_sub [1, 2, 3, 4, 0, 5] (al' := [(0, .ref (e_ad E a0)), (3, .int y90_3), (4, .int y90_4), (5, .int y90_5), (6, .int 0), (7, .int y90_7)]) rfl ?_
                  exact hL90 _ _ _ _ _ _
            refine s_icmp_ge (tgt := 250) G dX9_findPairs_211 (by decide) (fun q211 => ?_) (fun q211 => ?_)
            ·
              exact hJ250 _
            ·
              refine s_v (fun _ k => tk_aload_n G dX9_findPairs_214 0 rfl (tk_gr G kX9 dX9_findPairs_215 wF_X9_9 k0 gR_9_0 (tk_iconst G dX9_findPairs_218 cI_3 k))) ?_
              refine s_iald G dX9_findPairs_219 (kF_9_0 k0) (fun v219 => ?_)
              refine s_v (fun _ k => tk_aload_n G dX9_findPairs_220 0 rfl (tk_iload G dX9_findPairs_221 2 rfl (tk_iconst G dX9_findPairs_223 cI_1 (tk_iadd G dX9_findPairs_224 (tk_iload G dX9_findPairs_225 3 rfl k))))) ?_
              refine s_callVI (As := [.int (y90_4 + 1), .int y90_5]) G dX9_findPairs_227 wY_X9_pairsLeft wM_X9_136 wI_X9_pairsLeft wS_X9_pairsLeft (tk_rm hR (by decide) (by decide)) kX9 k0 (by decide) (c_X9_pairsLeft E g205 a0 (y90_4 + 1) y90_5 k0) rfl rfl (Nat.le_of_ble_eq_true rfl) ⟨Nat.zero_le _, Nat.zero_le _⟩ (fun x227 => ?_)
              refine s_v (fun _ k => tk_iadd G dX9_findPairs_230 (tk_iload_n G dX9_findPairs_231 1 rfl k)) ?_
              refine s_icmp_ne (tgt := 250) G dX9_findPairs_232 (by decide) (fun q232 => ?_) (fun q232 => ?_)
              ·
                refine s_v (fun _ k => tk_iload_n G dX9_findPairs_235 1 rfl (tk_aload_n G dX9_findPairs_236 0 rfl (tk_gr G kX9 dX9_findPairs_237 wF_X9_9 k0 gR_9_0 (tk_iconst G dX9_findPairs_240 cI_3 k)))) ?_
                refine s_iald G dX9_findPairs_241 (kF_9_0 k0) (fun v241 => ?_)
                refine s_v (fun _ k => tk_isub G dX9_findPairs_242 (tk_istore_n (al' := [(3, .int (y90_3 - v241)), (0, .ref (e_ad E a0)), (4, .int y90_4), (5, .int y90_5), (6, .int y90_6), (7, .int y90_7)]) G dX9_findPairs_243 (by decide) rfl (tk_iinc (al' := [(4, .int (y90_4 + 1)), (3, .int (y90_3 - v241)), (0, .ref (e_ad E a0)), (5, .int y90_5), (6, .int y90_6), (7, .int y90_7)]) G dX9_findPairs_244 2 rfl (ci_1 _) (by decide) rfl (tk_goto (tgt := 90) G dX9_findPairs_247 (by decide) k)))) ?_
                refine s_sub [2, 1, 0, 3, 4, 5] (al' := [(0, .ref (e_ad E a0)), (3, .int (y90_3 - v241)), (4, .int (y90_4 + 1)), (5, .int y90_5), (6, .int y90_6), (7, .int y90_7)]) rfl ?_
                exact hL90 _ _ _ _ _ _
              ·
                exact hJ250 _
          refine s_icmp_ge (tgt := 205) G dX9_findPairs_101 (by decide) (fun q101 => ?_) (fun q101 => ?_)
          ·
            exact hJ205 _
          ·
            refine s_v (fun _ k => tk_iload G dX9_findPairs_104 3 rfl (tk_aload_n G dX9_findPairs_106 0 rfl (tk_gi G kX9 dX9_findPairs_107 wF_X9_130 k0 gI_9_14 k))) ?_
            refine s_icmp_ge (tgt := 205) G dX9_findPairs_110 (by decide) (fun q110 => ?_) (fun q110 => ?_)
            ·
              exact hJ205 _
            ·
              refine s_v (fun _ k => tk_aload_n G dX9_findPairs_113 0 rfl (tk_iload G dX9_findPairs_114 2 rfl (tk_iload G dX9_findPairs_116 3 rfl k))) ?_
              refine s_callVI (As := [.int y90_4, .int y90_5]) G dX9_findPairs_118 wY_X9_pairCost wM_X9_152 wI_X9_pairCost wS_X9_pairCost (tk_rm hR (by decide) (by decide)) kX9 k0 (by decide) (c_X9_pairCost E g90 a0 y90_4 y90_5 k0) rfl rfl (Nat.le_of_ble_eq_true rfl) ⟨Nat.zero_le _, Nat.zero_le _⟩ (fun x118 => ?_)
              refine s_v (fun _ k => tk_aload_n G dX9_findPairs_121 0 rfl (tk_iload G dX9_findPairs_122 2 rfl (tk_iconst G dX9_findPairs_124 cI_1 (tk_iadd G dX9_findPairs_125 (tk_iload G dX9_findPairs_126 3 rfl (tk_iconst G dX9_findPairs_128 cI_1 (tk_iadd G dX9_findPairs_129 k))))))) ?_
              refine s_callVI (As := [.int (y90_4 + 1), .int (y90_5 + 1)]) G dX9_findPairs_130 wY_X9_leastFrom wM_X9_155 wI_X9_leastFrom wS_X9_leastFrom (tk_rm hR (by decide) (by decide)) kX9 k0 (by decide) (c_X9_leastFrom E x118.2 a0 (y90_4 + 1) (y90_5 + 1) k0) rfl rfl (Nat.le_of_ble_eq_true rfl) ⟨Nat.zero_le _, Nat.zero_le _⟩ (fun x130 => ?_)
              refine s_v (fun _ k => tk_iadd G dX9_findPairs_133 (tk_iload_n G dX9_findPairs_134 1 rfl k)) ?_
              refine s_icmp_ne (tgt := 205) G dX9_findPairs_135 (by decide) (fun q135 => ?_) (fun q135 => ?_)
              ·
                refine s_v (fun _ k => tk_iload_n G dX9_findPairs_138 1 rfl (tk_aload_n G dX9_findPairs_139 0 rfl (tk_iload G dX9_findPairs_140 2 rfl (tk_iload G dX9_findPairs_142 3 rfl k)))) ?_
                refine s_callVI (As := [.int y90_4, .int y90_5]) G dX9_findPairs_144 wY_X9_pairCost wM_X9_152 wI_X9_pairCost wS_X9_pairCost (tk_rm hR (by decide) (by decide)) kX9 k0 (by decide) (c_X9_pairCost E x130.2 a0 y90_4 y90_5 k0) rfl rfl (Nat.le_of_ble_eq_true rfl) ⟨Nat.zero_le _, Nat.zero_le _⟩ (fun x144 => ?_)
                refine s_v (fun _ k => tk_isub G dX9_findPairs_147 (tk_istore_n (al' := [(3, .int (y90_3 - x144.1)), (0, .ref (e_ad E a0)), (4, .int y90_4), (5, .int y90_5), (6, .int y90_6), (7, .int y90_7)]) G dX9_findPairs_148 (by decide) rfl (tk_aload_n G dX9_findPairs_149 1 rfl (tk_gr G kX9 dX9_findPairs_150 wF_X9_31 k0 gR_9_18 (tk_iload G dX9_findPairs_153 2 rfl (tk_iload G dX9_findPairs_155 3 rfl k)))))) ?_
                refine s_iast G dX9_findPairs_157 (kF_9_18 k0) (fun h157 => ?_)
                refine s_v (fun _ k => tk_iinc (al' := [(4, .int (y90_4 + 1)), (3, .int (y90_3 - x144.1)), (0, .ref (e_ad E a0)), (5, .int y90_5), (6, .int y90_6), (7, .int y90_7)]) G dX9_findPairs_158 2 rfl (ci_1 _) (by decide) rfl (tk_iinc (al' := [(5, .int (y90_5 + 1)), (4, .int (y90_4 + 1)), (3, .int (y90_3 - x144.1)), (0, .ref (e_ad E a0)), (6, .int y90_6), (7, .int y90_7)]) G dX9_findPairs_161 3 rfl (ci_1 _) (by decide) rfl (tk_aload_n G dX9_findPairs_164 3 rfl (tk_iload G dX9_findPairs_165 1 rfl (tk_iload G dX9_findPairs_167 0 rfl k))))) ?_
                refine s_callVI (As := [.int (y90_4 + 1), .int (y90_5 + 1)]) G dX9_findPairs_169 wY_X9_pairsLeft wM_X9_136 wI_X9_pairsLeft wS_X9_pairsLeft (tk_rm hR (by decide) (by decide)) kX9 k0 (by decide) (c_X9_pairsLeft E h157 a0 (y90_4 + 1) (y90_5 + 1) k0) rfl rfl (Nat.le_of_ble_eq_true rfl) ⟨Nat.zero_le _, Nat.zero_le _⟩ (fun x169 => ?_)
                refine s_v (fun _ k => tk_iload_n G dX9_findPairs_172 2 rfl k) ?_
                have hJ181 : ∀ (g181 : tkH) (t181_0 : Int32), tkS E X 8 0 0 (tkZv E X) 181 [(0, .ref (e_ad E a0)), (3, .int (y90_3 - x144.1)), (4, .int (y90_4 + 1)), (5, .int (y90_5 + 1))] [.int t181_0] g181 (f_X9_findPairs_J181 a0 y90_4 y90_5 y90_3 x144 kk90 g181 t181_0) := by
                  intro g181 t181_0
                  unfold f_X9_findPairs_J181
                  refine s_v (fun _ k => tk_istore (al' := [(6, .int t181_0), (0, .ref (e_ad E a0)), (3, .int (y90_3 - x144.1)), (4, .int (y90_4 + 1)), (5, .int (y90_5 + 1))]) G dX9_findPairs_181 (by decide) rfl (tk_aload_n G dX9_findPairs_183 1 rfl (tk_iload G dX9_findPairs_184 3 rfl (tk_iload G dX9_findPairs_186 4 rfl k)))) ?_
                  refine s_callVI (As := [.int (y90_4 + 1), .int (y90_5 + 1)]) G dX9_findPairs_188 wY_X9_endCost wM_X9_140 wI_X9_endCost wS_X9_endCost (tk_rm hR (by decide) (by decide)) kX9 k0 (by decide) (c_X9_endCost E g181 a0 (y90_4 + 1) (y90_5 + 1) k0) rfl rfl (Nat.le_of_ble_eq_true rfl) ⟨Nat.zero_le _, Nat.zero_le _⟩ (fun x188 => ?_)
                  refine s_v (fun _ k => tk_iload_n G dX9_findPairs_191 2 rfl k) ?_
                  refine s_icmp_ne (tgt := 199) G dX9_findPairs_192 (by decide) (fun q192 => ?_) (fun q192 => ?_)
                  ·
                    refine s_v (fun _ k => tk_iconst G dX9_findPairs_195 cI_1 (tk_goto (tgt := 200) G dX9_findPairs_196 (by decide) k)) ?_
                    refine s_v (fun _ k => tk_istore (al' := [(7, .int 1), (6, .int t181_0), (0, .ref (e_ad E a0)), (3, .int (y90_3 - x144.1)), (4, .int (y90_4 + 1)), (5, .int (y90_5 + 1))]) G dX9_findPairs_200 (by decide) rfl (tk_goto (tgt := 90) G dX9_findPairs_202 (by decide) k)) ?_
                    refine s_sub [2, 3, 4, 5, 1, 0] (al' := [(0, .ref (e_ad E a0)), (3, .int (y90_3 - x144.1)), (4, .int (y90_4 + 1)), (5, .int (y90_5 + 1)), (6, .int t181_0), (7, .int 1)]) rfl ?_
                    exact hL90 _ _ _ _ _ _
                  ·
                    refine s_v (fun _ k => tk_iconst G dX9_findPairs_199 cI_0 (tk_istore (al' := [(7, .int 0), (6, .int t181_0), (0, .ref (e_ad E a0)), (3, .int (y90_3 - x144.1)), (4, .int (y90_4 + 1)), (5, .int (y90_5 + 1))]) G dX9_findPairs_200 (by decide) rfl (tk_goto (tgt := 90) G dX9_findPairs_202 (by decide) k))) ?_
                    refine s_sub [2, 3, 4, 5, 1, 0] (al' := [(0, .ref (e_ad E a0)), (3, .int (y90_3 - x144.1)), (4, .int (y90_4 + 1)), (5, .int (y90_5 + 1)), (6, .int t181_0), (7, .int 0)]) rfl ?_
                    exact hL90 _ _ _ _ _ _
                refine s_icmp_ne (tgt := 180) G dX9_findPairs_173 (by decide) (fun q173 => ?_) (fun q173 => ?_)
                ·
                  refine s_v (fun _ k => tk_iconst G dX9_findPairs_176 cI_1 (tk_goto (tgt := 181) G dX9_findPairs_177 (by decide) k)) ?_
                  refine s_sub [3, 2, 1, 0] (al' := [(0, .ref (e_ad E a0)), (3, .int (y90_3 - x144.1)), (4, .int (y90_4 + 1)), (5, .int (y90_5 + 1))]) rfl ?_
                  exact hJ181 _ _
                ·
                  refine s_v (fun _ k => tk_iconst G dX9_findPairs_180 cI_0 k) ?_
                  refine s_sub [3, 2, 1, 0] (al' := [(0, .ref (e_ad E a0)), (3, .int (y90_3 - x144.1)), (4, .int (y90_4 + 1)), (5, .int (y90_5 + 1))]) rfl ?_
                  exact hJ181 _ _
              ·
                exact hJ205 _
      refine s_icmp_ne (tgt := 87) G dX9_findPairs_80 (by decide) (fun q80 => ?_) (fun q80 => ?_)
      ·
        refine s_v (fun _ k => tk_iconst G dX9_findPairs_83 cI_1 (tk_goto (tgt := 88) G dX9_findPairs_84 (by decide) k)) ?_
        refine s_sub [1, 2, 3, 4, 0] (al' := [(0, .ref (e_ad E a0)), (3, .int x12.1), (4, .int (gz40 a0 9)), (5, .int (gz40 a0 13)), (6, .int t69_0)]) rfl ?_
        exact hJ88 _ _
      ·
        refine s_v (fun _ k => tk_iconst G dX9_findPairs_87 cI_0 k) ?_
        refine s_sub [1, 2, 3, 4, 0] (al' := [(0, .ref (e_ad E a0)), (3, .int x12.1), (4, .int (gz40 a0 9)), (5, .int (gz40 a0 13)), (6, .int t69_0)]) rfl ?_
        exact hJ88 _ _
    refine s_icmp_ne (tgt := 68) G dX9_findPairs_61 (by decide) (fun q61 => ?_) (fun q61 => ?_)
    ·
      refine s_v (fun _ k => tk_iconst G dX9_findPairs_64 cI_1 (tk_goto (tgt := 69) G dX9_findPairs_65 (by decide) k)) ?_
      refine s_sub [2, 3, 1, 0] (al' := [(0, .ref (e_ad E a0)), (3, .int x12.1), (4, .int (gz40 a0 9)), (5, .int (gz40 a0 13))]) rfl ?_
      exact hJ69 _ _
    ·
      refine s_v (fun _ k => tk_iconst G dX9_findPairs_68 cI_0 k) ?_
      refine s_sub [2, 3, 1, 0] (al' := [(0, .ref (e_ad E a0)), (3, .int x12.1), (4, .int (gz40 a0 9)), (5, .int (gz40 a0 13))]) rfl ?_
      exact hJ69 _ _
  refine s_sub [2, 1, 0] (al' := [(0, .ref (e_ad E a0)), (3, .int x12.1), (4, .int 0)]) rfl ?_
  unfold f_X9_findPairs_L19
  refine s_lp1 (al := fun y19_4 => [(0, .ref (e_ad E a0)), (3, .int x12.1), (4, .int y19_4)]) (fun kk19 hL19 g19 y19_4 => ?_) _ _ _
  refine s_v (fun _ k => tk_iload G dX9_findPairs_19 2 rfl (tk_bipush G dX9_findPairs_21 cB_10 k)) ?_
  refine s_icmp_ge (tgt := 40) G dX9_findPairs_23 (by decide) (fun q23 => ?_) (fun q23 => ?_)
  ·
    refine s_sub [0, 1] (al' := [(0, .ref (e_ad E a0)), (3, .int x12.1)]) rfl ?_
    exact hX40 _
  ·
    refine s_v (fun _ k => tk_aload_n G dX9_findPairs_26 0 rfl (tk_gr G kX9 dX9_findPairs_27 wF_X9_31 k0 gR_9_18 (tk_iload G dX9_findPairs_30 2 rfl (tk_iconst G dX9_findPairs_32 cI_m1 k)))) ?_
    refine s_iast G dX9_findPairs_33 (kF_9_18 k0) (fun h33 => ?_)
    refine s_v (fun _ k => tk_iinc (al' := [(4, .int (y19_4 + 1)), (0, .ref (e_ad E a0)), (3, .int x12.1)]) G dX9_findPairs_34 2 rfl (ci_1 _) (by decide) rfl (tk_goto (tgt := 19) G dX9_findPairs_37 (by decide) k)) ?_
    refine s_sub [1, 2, 0] (al' := [(0, .ref (e_ad E a0)), (3, .int x12.1), (4, .int (y19_4 + 1))]) rfl ?_
    exact hL19 _ _
theorem c_X9_findPairs (E : tkE) (h : tkH) (a0 : Nat) (a1 : Int32) (a2 : Int32) (k0 : kd a0 = 12) : ∀ x, f_X9_findPairs h a0 a1 a2 = some x → tkM E yX9_findPairs cX9_findPairs 8 none 6 tkF [.ref (e_ad E a0), .int a1, .int a2] h none x := fun x hx => tkM_of (by decide) (Nat.le_of_ble_eq_true rfl) (fun _ hR G => w_X9_findPairs hR G h a0 a1 a2 k0 x hx)
set_option maxRecDepth 100000 in
set_option maxHeartbeats 4000000 in
theorem w_X9_findTree {E : tkE} {X : tkX} (hR : x_R X = tkR 6) (G : tkG E X cX9_findTree 6 RX9 none) (h : tkH) (a0 : Nat) (a1 : Int32) (k0 : kd a0 = 12) : tkS E X 6 0 0 (tkZv E X) 0 [(0, .ref (e_ad E a0)), (1, .int a1)] [] h (f_X9_findTree h a0 a1) := by
  unfold f_X9_findTree
  refine s_v (fun _ k => tk_iconst G dX9_findTree_0 cI_0 (tk_istore_n (al' := [(2, .int 0), (0, .ref (e_ad E a0)), (1, .int a1)]) G dX9_findTree_1 (by decide) rfl k)) ?_
  have hX88 : ∀ (gz88 : tkH), tkS E X 6 0 0 (tkZv E X) 88 [(0, .ref (e_ad E a0))] [] gz88 ((f_X9_nextBranch (tkup (tkup gz88 a0 23 0) a0 24 0) a0).bind fun x99 => f_X9_findTree_L103 a0 FU x99.2 x99.1) := by
    intro gz88
    refine s_v (fun _ k => tk_aload_n G dX9_findTree_88 0 rfl (tk_iconst G dX9_findTree_89 cI_0 (tk_pi G kX9 dX9_findTree_90 wF_X9_190 k0 gP_9_23 (tk_aload_n G dX9_findTree_93 0 rfl (tk_iconst G dX9_findTree_94 cI_0 (tk_pi G kX9 dX9_findTree_95 wF_X9_193 k0 gP_9_24 (tk_aload_n G dX9_findTree_98 0 rfl k))))))) ?_
    refine s_callVI (As := []) G dX9_findTree_99 wY_X9_nextBranch wM_X9_196 wI_X9_nextBranch wS_X9_nextBranch (tk_rm hR (by decide) (by decide)) kX9 k0 (by decide) (c_X9_nextBranch E (tkup (tkup gz88 a0 23 0) a0 24 0) a0 k0) rfl rfl (Nat.le_of_ble_eq_true rfl) ⟨Nat.zero_le _, Nat.zero_le _⟩ (fun x99 => ?_)
    refine s_v (fun _ k => tk_istore_n (al' := [(2, .int x99.1), (0, .ref (e_ad E a0))]) G dX9_findTree_102 (by decide) rfl k) ?_
    refine s_sub [1, 0] (al' := [(0, .ref (e_ad E a0)), (2, .int x99.1)]) rfl ?_
    unfold f_X9_findTree_L103
    refine s_lp1 (al := fun y103_2 => [(0, .ref (e_ad E a0)), (2, .int y103_2)]) (fun kk103 hL103 g103 y103_2 => ?_) _ _ _
    refine s_v (fun _ k => tk_iload_n G dX9_findTree_103 1 rfl k) ?_
    refine s_if_lt (tgt := 232) G dX9_findTree_104 (by decide) (fun q104 => ?_) (fun q104 => ?_)
    ·
      exact s_vret G dX9_findTree_232
    ·
      refine s_v (fun _ k => tk_aload_n G dX9_findTree_107 0 rfl (tk_gr G kX9 dX9_findTree_108 wF_X9_37 k0 gR_9_21 (tk_iload_n G dX9_findTree_111 1 rfl (tk_bipush G dX9_findTree_112 cB_10 (tk_idiv G dX9_findTree_114 (by decide) k))))) ?_
      refine s_iald G dX9_findTree_115 (kF_9_21 k0) (fun v115 => ?_)
      refine s_v (fun _ k => tk_istore_n (al' := [(3, .int v115), (0, .ref (e_ad E a0)), (2, .int y103_2)]) G dX9_findTree_116 (by decide) rfl (tk_aload_n G dX9_findTree_117 1 rfl (tk_gr G kX9 dX9_findTree_118 wF_X9_37 k0 gR_9_21 (tk_iload_n G dX9_findTree_121 2 rfl (tk_bipush G dX9_findTree_122 cB_10 (tk_irem G dX9_findTree_124 (by decide) k)))))) ?_
      refine s_iald G dX9_findTree_125 (kF_9_21 k0) (fun v125 => ?_)
      refine s_v (fun _ k => tk_istore (al' := [(4, .int v125), (3, .int v115), (0, .ref (e_ad E a0)), (2, .int y103_2)]) G dX9_findTree_126 (by decide) rfl (tk_iconst G dX9_findTree_128 cI_0 (tk_istore (al' := [(5, .int 0), (4, .int v125), (3, .int v115), (0, .ref (e_ad E a0)), (2, .int y103_2)]) G dX9_findTree_129 (by decide) rfl k))) ?_
      have hX178 : ∀ (gz178 : tkH), tkS E X 6 0 0 (tkZv E X) 178 [(0, .ref (e_ad E a0)), (2, .int y103_2)] [] gz178 ((wrI gz178 (fld a0 22) (gz178 a0 23) ((16 * (y103_2 / 10)) + (y103_2 - y103_2 / 10 * 10))).bind fun h198 => (rdI (tkup h198 a0 23 ((h198 a0 23) + 1)) (fld a0 20) y103_2).bind fun v219 => (f_X9_nextBranch (tkup (tkup h198 a0 23 ((h198 a0 23) + 1)) a0 24 (((tkup h198 a0 23 ((h198 a0 23) + 1)) a0 24) + v219)) a0).bind fun x225 => kk103 x225.2 x225.1) := by
        intro gz178
        refine s_v (fun _ k => tk_aload_n G dX9_findTree_178 0 rfl (tk_gr G kX9 dX9_findTree_179 wF_X9_40 k0 gR_9_22 (tk_aload_n G dX9_findTree_182 0 rfl (tk_gi G kX9 dX9_findTree_183 wF_X9_190 k0 gI_9_23 (tk_bipush G dX9_findTree_186 cB_16 (tk_iload_n G dX9_findTree_188 1 rfl (tk_bipush G dX9_findTree_189 cB_10 (tk_idiv G dX9_findTree_191 (by decide) (tk_imul G dX9_findTree_192 (tk_iload_n G dX9_findTree_193 1 rfl (tk_bipush G dX9_findTree_194 cB_10 (tk_irem G dX9_findTree_196 (by decide) (tk_iadd G dX9_findTree_197 k))))))))))))) ?_
        refine s_iast G dX9_findTree_198 (kF_9_22 k0) (fun h198 => ?_)
        refine s_v (fun _ k => tk_aload_n G dX9_findTree_199 0 rfl (tk_dup G dX9_findTree_200 rfl (tk_gi G kX9 dX9_findTree_201 wF_X9_190 k0 gI_9_23 (tk_iconst G dX9_findTree_204 cI_1 (tk_iadd G dX9_findTree_205 (tk_pi G kX9 dX9_findTree_206 wF_X9_190 k0 gP_9_23 (tk_aload_n G dX9_findTree_209 0 rfl (tk_dup G dX9_findTree_210 rfl (tk_gi G kX9 dX9_findTree_211 wF_X9_193 k0 gI_9_24 (tk_aload_n G dX9_findTree_214 0 rfl (tk_gr G kX9 dX9_findTree_215 wF_X9_34 k0 gR_9_20 (tk_iload_n G dX9_findTree_218 1 rfl k)))))))))))) ?_
        refine s_iald G dX9_findTree_219 (kF_9_20 k0) (fun v219 => ?_)
        refine s_v (fun _ k => tk_iadd G dX9_findTree_220 (tk_pi G kX9 dX9_findTree_221 wF_X9_193 k0 gP_9_24 (tk_aload_n G dX9_findTree_224 0 rfl k))) ?_
        refine s_callVI (As := []) G dX9_findTree_225 wY_X9_nextBranch wM_X9_196 wI_X9_nextBranch wS_X9_nextBranch (tk_rm hR (by decide) (by decide)) kX9 k0 (by decide) (c_X9_nextBranch E (tkup (tkup h198 a0 23 ((h198 a0 23) + 1)) a0 24 (((tkup h198 a0 23 ((h198 a0 23) + 1)) a0 24) + v219)) a0 k0) rfl rfl (Nat.le_of_ble_eq_true rfl) ⟨Nat.zero_le _, Nat.zero_le _⟩ (fun x225 => ?_)
        refine s_v (fun _ k => tk_istore_n (al' := [(2, .int x225.1), (0, .ref (e_ad E a0))]) G dX9_findTree_228 (by decide) rfl (tk_goto (tgt := 103) G dX9_findTree_229 (by decide) k)) ?_
        refine s_sub [1, 0] (al' := [(0, .ref (e_ad E a0)), (2, .int x225.1)]) rfl ?_
        exact hL103 _ _
      refine s_sub [3, 4, 2, 1, 0] (al' := [(0, .ref (e_ad E a0)), (2, .int y103_2), (3, .int v115), (4, .int v125), (5, .int 0)]) rfl ?_
      unfold f_X9_findTree_L131
      refine s_lp1 (al := fun y131_5 => [(0, .ref (e_ad E a0)), (2, .int y103_2), (3, .int v115), (4, .int v125), (5, .int y131_5)]) (fun kk131 hL131 g131 y131_5 => ?_) _ _ _
      refine s_v (fun _ k => tk_iload G dX9_findTree_131 4 rfl (tk_aload_n G dX9_findTree_133 0 rfl (tk_gr G kX9 dX9_findTree_134 wF_X9_9 k0 gR_9_0 (tk_iconst G dX9_findTree_137 cI_0 k)))) ?_
      refine s_iald G dX9_findTree_138 (kF_9_0 k0) (fun v138 => ?_)
      refine s_icmp_ge (tgt := 178) G dX9_findTree_139 (by decide) (fun q139 => ?_) (fun q139 => ?_)
      ·
        refine s_sub [0, 1] (al' := [(0, .ref (e_ad E a0)), (2, .int y103_2)]) rfl ?_
        exact hX178 _
      ·
        refine s_v (fun _ k => tk_aload_n G dX9_findTree_142 0 rfl (tk_gr G kX9 dX9_findTree_143 wF_X9_37 k0 gR_9_21 (tk_iload G dX9_findTree_146 4 rfl (tk_aload_n G dX9_findTree_148 0 rfl (tk_gr G kX9 dX9_findTree_149 wF_X9_37 k0 gR_9_21 (tk_iload G dX9_findTree_152 4 rfl k)))))) ?_
        refine s_iald G dX9_findTree_154 (kF_9_21 k0) (fun v154 => ?_)
        refine s_v (fun _ k => tk_iload G dX9_findTree_155 3 rfl k) ?_
        have hJ171 : ∀ (g171 : tkH) (t171_0 : Int32), tkS E X 6 0 0 (tkZv E X) 171 [(0, .ref (e_ad E a0)), (2, .int y103_2), (3, .int v115), (4, .int v125), (5, .int y131_5)] [.int t171_0, .int y131_5, .ref (e_ad E (fld a0 21))] g171 (f_X9_findTree_J171 a0 y131_5 kk131 g171 t171_0) := by
          intro g171 t171_0
          unfold f_X9_findTree_J171
          refine s_iast G dX9_findTree_171 (kF_9_21 k0) (fun h171 => ?_)
          refine s_v (fun _ k => tk_iinc (al' := [(5, .int (y131_5 + 1)), (0, .ref (e_ad E a0)), (2, .int y103_2), (3, .int v115), (4, .int v125)]) G dX9_findTree_172 4 rfl (ci_1 _) (by decide) rfl (tk_goto (tgt := 131) G dX9_findTree_175 (by decide) k)) ?_
          refine s_sub [1, 2, 3, 4, 0] (al' := [(0, .ref (e_ad E a0)), (2, .int y103_2), (3, .int v115), (4, .int v125), (5, .int (y131_5 + 1))]) rfl ?_
          exact hL131 _ _
        refine s_icmp_ne (tgt := 164) G dX9_findTree_157 (by decide) (fun q157 => ?_) (fun q157 => ?_)
        ·
          refine s_v (fun _ k => tk_iload_n G dX9_findTree_160 2 rfl (tk_goto (tgt := 171) G dX9_findTree_161 (by decide) k)) ?_
          exact hJ171 _ _
        ·
          refine s_v (fun _ k => tk_aload_n G dX9_findTree_164 0 rfl (tk_gr G kX9 dX9_findTree_165 wF_X9_37 k0 gR_9_21 (tk_iload G dX9_findTree_168 4 rfl k))) ?_
          refine s_iald G dX9_findTree_170 (kF_9_21 k0) (fun v170 => ?_)
          exact hJ171 _ _
  refine s_sub [1, 2, 0] (al' := [(0, .ref (e_ad E a0)), (1, .int a1), (2, .int 0)]) rfl ?_
  unfold f_X9_findTree_L2
  refine s_lp1 (al := fun y2_2 => [(0, .ref (e_ad E a0)), (1, .int a1), (2, .int y2_2)]) (fun kk2 hL2 g2 y2_2 => ?_) _ _ _
  refine s_v (fun _ k => tk_iload_n G dX9_findTree_2 2 rfl (tk_aload_n G dX9_findTree_3 0 rfl (tk_gr G kX9 dX9_findTree_4 wF_X9_9 k0 gR_9_0 (tk_iconst G dX9_findTree_7 cI_0 k)))) ?_
  refine s_iald G dX9_findTree_8 (kF_9_0 k0) (fun v8 => ?_)
  refine s_icmp_ge (tgt := 88) G dX9_findTree_9 (by decide) (fun q9 => ?_) (fun q9 => ?_)
  ·
    refine s_sub [0] (al' := [(0, .ref (e_ad E a0))]) rfl ?_
    exact hX88 _
  ·
    refine s_v (fun _ k => tk_aload_n G dX9_findTree_12 0 rfl (tk_gr G kX9 dX9_findTree_13 wF_X9_37 k0 gR_9_21 (tk_iload_n G dX9_findTree_16 2 rfl (tk_iload_n G dX9_findTree_17 2 rfl k)))) ?_
    refine s_iast G dX9_findTree_18 (kF_9_21 k0) (fun h18 => ?_)
    refine s_v (fun _ k => tk_iload_n G dX9_findTree_19 2 rfl (tk_iconst G dX9_findTree_20 cI_1 (tk_iadd G dX9_findTree_21 (tk_istore_n (al' := [(3, .int (y2_2 + 1)), (0, .ref (e_ad E a0)), (1, .int a1), (2, .int y2_2)]) G dX9_findTree_22 (by decide) rfl k)))) ?_
    have hX82 : ∀ (gz82 : tkH), tkS E X 6 0 0 (tkZv E X) 82 [(0, .ref (e_ad E a0)), (1, .int a1), (2, .int y2_2)] [] gz82 (kk2 gz82 (y2_2 + 1)) := by
      intro gz82
      refine s_v (fun _ k => tk_iinc (al' := [(2, .int (y2_2 + 1)), (0, .ref (e_ad E a0)), (1, .int a1)]) G dX9_findTree_82 2 rfl (ci_1 _) (by decide) rfl (tk_goto (tgt := 2) G dX9_findTree_85 (by decide) k)) ?_
      refine s_sub [1, 2, 0] (al' := [(0, .ref (e_ad E a0)), (1, .int a1), (2, .int (y2_2 + 1))]) rfl ?_
      exact hL2 _ _
    refine s_sub [1, 2, 3, 0] (al' := [(0, .ref (e_ad E a0)), (1, .int a1), (2, .int y2_2), (3, .int (y2_2 + 1))]) rfl ?_
    unfold f_X9_findTree_L23
    refine s_lp1 (al := fun y23_3 => [(0, .ref (e_ad E a0)), (1, .int a1), (2, .int y2_2), (3, .int y23_3)]) (fun kk23 hL23 g23 y23_3 => ?_) _ _ _
    refine s_v (fun _ k => tk_iload_n G dX9_findTree_23 3 rfl (tk_aload_n G dX9_findTree_24 0 rfl (tk_gr G kX9 dX9_findTree_25 wF_X9_9 k0 gR_9_0 (tk_iconst G dX9_findTree_28 cI_0 k)))) ?_
    refine s_iald G dX9_findTree_29 (kF_9_0 k0) (fun v29 => ?_)
    refine s_icmp_ge (tgt := 82) G dX9_findTree_30 (by decide) (fun q30 => ?_) (fun q30 => ?_)
    ·
      refine s_sub [0, 1, 2] (al' := [(0, .ref (e_ad E a0)), (1, .int a1), (2, .int y2_2)]) rfl ?_
      exact hX82 _
    ·
      refine s_v (fun _ k => tk_aload_n G dX9_findTree_33 0 rfl (tk_gr G kX9 dX9_findTree_34 wF_X9_34 k0 gR_9_20 (tk_bipush G dX9_findTree_37 cB_10 (tk_iload_n G dX9_findTree_39 2 rfl (tk_imul G dX9_findTree_40 (tk_iload_n G dX9_findTree_41 3 rfl (tk_iadd G dX9_findTree_42 (tk_iload_n G dX9_findTree_43 1 rfl (tk_iload_n G dX9_findTree_44 2 rfl (tk_ishr G dX9_findTree_45 (tk_iload_n G dX9_findTree_46 1 rfl (tk_iload_n G dX9_findTree_47 3 rfl (tk_ishr G dX9_findTree_48 (tk_iand G dX9_findTree_49 (tk_iconst G dX9_findTree_50 cI_1 (tk_iand G dX9_findTree_51 (tk_iconst G dX9_findTree_52 cI_1 k))))))))))))))))) ?_
      have hJ75 : ∀ (g75 : tkH) (t75_0 : Int32), tkS E X 6 0 0 (tkZv E X) 75 [(0, .ref (e_ad E a0)), (1, .int a1), (2, .int y2_2), (3, .int y23_3)] [.int t75_0, .int ((10 * y2_2) + y23_3), .ref (e_ad E (fld a0 20))] g75 (f_X9_findTree_J75 a0 y2_2 y23_3 kk23 g75 t75_0) := by
        intro g75 t75_0
        unfold f_X9_findTree_J75
        refine s_iast G dX9_findTree_75 (kF_9_20 k0) (fun h75 => ?_)
        refine s_v (fun _ k => tk_iinc (al' := [(3, .int (y23_3 + 1)), (0, .ref (e_ad E a0)), (1, .int a1), (2, .int y2_2)]) G dX9_findTree_76 3 rfl (ci_1 _) (by decide) rfl (tk_goto (tgt := 23) G dX9_findTree_79 (by decide) k)) ?_
        refine s_sub [1, 2, 3, 0] (al' := [(0, .ref (e_ad E a0)), (1, .int a1), (2, .int y2_2), (3, .int (y23_3 + 1))]) rfl ?_
        exact hL23 _ _
      refine s_icmp_ne (tgt := 74) G dX9_findTree_53 (by decide) (fun q53 => ?_) (fun q53 => ?_)
      ·
        refine s_v (fun _ k => tk_aload_n G dX9_findTree_56 0 rfl (tk_iload_n G dX9_findTree_57 2 rfl (tk_iload_n G dX9_findTree_58 3 rfl k))) ?_
        refine s_callVI (As := [.int y2_2, .int y23_3]) G dX9_findTree_59 wY_X9_costOf wM_X9_172 wI_X9_costOf wS_X9_costOf (tk_rm hR (by decide) (by decide)) kX9 k0 (by decide) (c_X9_costOf E g23 a0 y2_2 y23_3 k0) rfl rfl (Nat.le_of_ble_eq_true rfl) ⟨Nat.zero_le _, Nat.zero_le _⟩ (fun x59 => ?_)
        refine s_v (fun _ k => tk_aload_n G dX9_findTree_62 0 rfl (tk_iload_n G dX9_findTree_63 3 rfl (tk_iload_n G dX9_findTree_64 2 rfl k))) ?_
        refine s_callVI (As := [.int y23_3, .int y2_2]) G dX9_findTree_65 wY_X9_costOf wM_X9_172 wI_X9_costOf wS_X9_costOf (tk_rm hR (by decide) (by decide)) kX9 k0 (by decide) (c_X9_costOf E x59.2 a0 y23_3 y2_2 k0) rfl rfl (Nat.le_of_ble_eq_true rfl) ⟨Nat.zero_le _, Nat.zero_le _⟩ (fun x65 => ?_)
        refine s_v (fun _ k => tk_mmin G dX9_findTree_68 wM_X9_143 (tk_rmm hR (by decide) (Nat.le_of_ble_eq_true rfl)) ⟨Nat.zero_le _, Nat.zero_le _⟩ (tk_goto (tgt := 75) G dX9_findTree_71 (by decide) k)) ?_
        exact hJ75 _ _
      ·
        refine s_v (fun _ k => tk_iconst G dX9_findTree_74 cI_m1 k) ?_
        exact hJ75 _ _
theorem c_X9_findTree (E : tkE) (h : tkH) (a0 : Nat) (a1 : Int32) (k0 : kd a0 = 12) : ∀ x, f_X9_findTree h a0 a1 = some x → tkM E yX9_findTree cX9_findTree 6 none 6 tkF [.ref (e_ad E a0), .int a1] h none x := fun x hx => tkM_of (by decide) (Nat.le_of_ble_eq_true rfl) (fun _ hR G => w_X9_findTree hR G h a0 a1 k0 x hx)
set_option maxRecDepth 100000 in
set_option maxHeartbeats 4000000 in
theorem w_X9_nearest {E : tkE} {X : tkX} (hR : x_R X = tkR 6) (G : tkG E X cX9_nearest 6 RX9 (some .int)) (h : tkH) (a0 : Nat) (a1 : Int32) (k0 : kd a0 = 12) : tkS E X 6 0 0 (tkZi E X) 0 [(0, .ref (e_ad E a0)), (1, .int a1)] [] h (f_X9_nearest h a0 a1) := by
  unfold f_X9_nearest
  refine s_v (fun _ k => tk_aload_n G dX9_nearest_0 0 rfl (tk_iload_n G dX9_nearest_1 1 rfl k)) ?_
  refine s_callVI (As := [.int a1]) G dX9_nearest_2 wY_X9_isTale wM_X9_71 wI_X9_isTale wS_X9_isTale (tk_rm hR (by decide) (by decide)) kX9 k0 (by decide) (c_X9_isTale E h a0 a1 k0) rfl rfl (Nat.le_of_ble_eq_true rfl) ⟨Nat.zero_le _, Nat.zero_le _⟩ (fun x2 => ?_)
  refine s_if_ne (tgt := 15) G dX9_nearest_5 (by decide) (fun q5 => ?_) (fun q5 => ?_)
  ·
    refine s_v (fun _ k => tk_aload_n G dX9_nearest_8 0 rfl (tk_ldc G dX9_nearest_9 wK_X9_66 k)) ?_
    refine s_callVI (As := [.int (-100001)]) G dX9_nearest_11 wY_X9_finding wM_X9_58 wI_X9_finding wS_X9_finding (tk_rm hR (by decide) (by decide)) kX9 k0 (by decide) (c_X9_finding E x2.2 a0 (-100001) k0) rfl rfl (Nat.le_of_ble_eq_true rfl) ⟨Nat.zero_le _, Nat.zero_le _⟩ (fun x11 => ?_)
    exact s_iret G dX9_nearest_14
  ·
    refine s_v (fun _ k => tk_iconst G dX9_nearest_15 cI_m1 (tk_istore_n (al' := [(2, .int (-1)), (0, .ref (e_ad E a0)), (1, .int a1)]) G dX9_nearest_16 (by decide) rfl (tk_iconst G dX9_nearest_17 cI_0 (tk_istore_n (al' := [(3, .int 0), (2, .int (-1)), (0, .ref (e_ad E a0)), (1, .int a1)]) G dX9_nearest_18 (by decide) rfl (tk_iconst G dX9_nearest_19 cI_0 (tk_istore (al' := [(4, .int 0), (3, .int 0), (2, .int (-1)), (0, .ref (e_ad E a0)), (1, .int a1)]) G dX9_nearest_20 (by decide) rfl k)))))) ?_
    have hX81 : ∀ (gz81 : tkH) (z81_2 : Int32), tkS E X 6 0 0 (tkZi E X) 81 [(0, .ref (e_ad E a0)), (2, .int z81_2)] [] gz81 (if 0 ≤ z81_2 then (some (z81_2, gz81)) else ((f_X9_finding gz81 a0 (-100006)).bind fun x88 => some (x88.1, x88.2))) := by
      intro gz81 z81_2
      refine s_v (fun _ k => tk_iload_n G dX9_nearest_81 1 rfl k) ?_
      refine s_if_ge (tgt := 94) G dX9_nearest_82 (by decide) (fun q82 => ?_) (fun q82 => ?_)
      ·
        refine s_v (fun _ k => tk_iload_n G dX9_nearest_94 1 rfl k) ?_
        exact s_iret G dX9_nearest_95
      ·
        refine s_v (fun _ k => tk_aload_n G dX9_nearest_85 0 rfl (tk_ldc G dX9_nearest_86 wK_X9_57 k)) ?_
        refine s_callVI (As := [.int (-100006)]) G dX9_nearest_88 wY_X9_finding wM_X9_58 wI_X9_finding wS_X9_finding (tk_rm hR (by decide) (by decide)) kX9 k0 (by decide) (c_X9_finding E gz81 a0 (-100006) k0) rfl rfl (Nat.le_of_ble_eq_true rfl) ⟨Nat.zero_le _, Nat.zero_le _⟩ (fun x88 => ?_)
        refine s_v (fun _ k => tk_goto (tgt := 95) G dX9_nearest_91 (by decide) k) ?_
        exact s_iret G dX9_nearest_95
    refine s_sub [3, 4, 2, 1, 0] (al' := [(0, .ref (e_ad E a0)), (1, .int a1), (2, .int (-1)), (3, .int 0), (4, .int 0)]) rfl ?_
    unfold f_X9_nearest_L22
    refine s_lp3 (al := fun y22_2 y22_3 y22_4 => [(0, .ref (e_ad E a0)), (1, .int a1), (2, .int y22_2), (3, .int y22_3), (4, .int y22_4)]) (fun kk22 hL22 g22 y22_2 y22_3 y22_4 => ?_) _ _ _ _ _
    refine s_v (fun _ k => tk_iload G dX9_nearest_22 4 rfl (tk_aload_n G dX9_nearest_24 0 rfl (tk_gr G kX9 dX9_nearest_25 wF_X9_9 k0 gR_9_0 (tk_iconst G dX9_nearest_28 cI_0 k)))) ?_
    refine s_iald G dX9_nearest_29 (kF_9_0 k0) (fun v29 => ?_)
    refine s_icmp_ge (tgt := 81) G dX9_nearest_30 (by decide) (fun q30 => ?_) (fun q30 => ?_)
    ·
      refine s_sub [0, 2] (al' := [(0, .ref (e_ad E a0)), (2, .int y22_2)]) rfl ?_
      exact hX81 _ _
    ·
      refine s_v (fun _ k => tk_iload G dX9_nearest_33 4 rfl (tk_iload_n G dX9_nearest_35 1 rfl k)) ?_
      have hJ51 : ∀ (g51 : tkH) (t51_0 : Int32), tkS E X 6 0 0 (tkZi E X) 51 [(0, .ref (e_ad E a0)), (1, .int a1), (2, .int y22_2), (3, .int y22_3), (4, .int y22_4)] [.int t51_0] g51 (f_X9_nearest_J51 y22_4 a1 kk22 y22_2 y22_3 g51 t51_0) := by
        intro g51 t51_0
        unfold f_X9_nearest_J51
        refine s_v (fun _ k => tk_istore (al' := [(5, .int t51_0), (0, .ref (e_ad E a0)), (1, .int a1), (2, .int y22_2), (3, .int y22_3), (4, .int y22_4)]) G dX9_nearest_51 (by decide) rfl (tk_iload G dX9_nearest_53 5 rfl (tk_iload_n G dX9_nearest_55 2 rfl k))) ?_
        refine s_icmp_eq (tgt := 75) G dX9_nearest_56 (by decide) (fun q56 => ?_) (fun q56 => ?_)
        ·
          refine s_v (fun _ k => tk_iinc (al' := [(4, .int (y22_4 + 1)), (5, .int t51_0), (0, .ref (e_ad E a0)), (1, .int a1), (2, .int y22_2), (3, .int y22_3)]) G dX9_nearest_75 5 rfl (ci_1 _) (by decide) rfl (tk_goto (tgt := 22) G dX9_nearest_78 (by decide) k)) ?_
          refine s_sub [2, 3, 4, 5, 0] (al' := [(0, .ref (e_ad E a0)), (1, .int a1), (2, .int y22_2), (3, .int y22_3), (4, .int (y22_4 + 1))]) rfl ?_
          exact hL22 _ _ _ _
        ·
          refine s_v (fun _ k => tk_iload_n G dX9_nearest_59 3 rfl k) ?_
          have hJ69 : ∀ (g69 : tkH), tkS E X 6 0 0 (tkZi E X) 69 [(0, .ref (e_ad E a0)), (1, .int a1), (4, .int y22_4), (5, .int t51_0)] [] g69 (f_X9_nearest_J69 kk22 y22_4 t51_0 g69) := by
            intro g69
            unfold f_X9_nearest_J69
            refine s_v (fun _ k => tk_iload G dX9_nearest_69 2 rfl (tk_istore_n (al' := [(2, .int y22_4), (0, .ref (e_ad E a0)), (1, .int a1), (4, .int y22_4), (5, .int t51_0)]) G dX9_nearest_71 (by decide) rfl (tk_iload G dX9_nearest_72 4 rfl (tk_istore_n (al' := [(3, .int t51_0), (2, .int y22_4), (0, .ref (e_ad E a0)), (1, .int a1), (4, .int y22_4), (5, .int t51_0)]) G dX9_nearest_74 (by decide) rfl (tk_iinc (al' := [(4, .int (y22_4 + 1)), (3, .int t51_0), (2, .int y22_4), (0, .ref (e_ad E a0)), (1, .int a1), (5, .int t51_0)]) G dX9_nearest_75 4 rfl (ci_1 _) (by decide) rfl (tk_goto (tgt := 22) G dX9_nearest_78 (by decide) k)))))) ?_
            refine s_sub [3, 4, 2, 1, 0] (al' := [(0, .ref (e_ad E a0)), (1, .int a1), (2, .int y22_4), (3, .int t51_0), (4, .int (y22_4 + 1))]) rfl ?_
            exact hL22 _ _ _ _
          refine s_if_lt (tgt := 69) G dX9_nearest_60 (by decide) (fun q60 => ?_) (fun q60 => ?_)
          ·
            refine s_sub [1, 2, 5, 0] (al' := [(0, .ref (e_ad E a0)), (1, .int a1), (4, .int y22_4), (5, .int t51_0)]) rfl ?_
            exact hJ69 _
          ·
            refine s_v (fun _ k => tk_iload G dX9_nearest_63 0 rfl (tk_iload_n G dX9_nearest_65 4 rfl k)) ?_
            refine s_icmp_ge (tgt := 75) G dX9_nearest_66 (by decide) (fun q66 => ?_) (fun q66 => ?_)
            ·
              refine s_v (fun _ k => tk_iinc (al' := [(4, .int (y22_4 + 1)), (5, .int t51_0), (0, .ref (e_ad E a0)), (1, .int a1), (2, .int y22_2), (3, .int y22_3)]) G dX9_nearest_75 5 rfl (ci_1 _) (by decide) rfl (tk_goto (tgt := 22) G dX9_nearest_78 (by decide) k)) ?_
              refine s_sub [2, 3, 4, 5, 0] (al' := [(0, .ref (e_ad E a0)), (1, .int a1), (2, .int y22_2), (3, .int y22_3), (4, .int (y22_4 + 1))]) rfl ?_
              exact hL22 _ _ _ _
            ·
              refine s_sub [1, 2, 5, 0] (al' := [(0, .ref (e_ad E a0)), (1, .int a1), (4, .int y22_4), (5, .int t51_0)]) rfl ?_
              exact hJ69 _
      refine s_icmp_ne (tgt := 44) G dX9_nearest_36 (by decide) (fun q36 => ?_) (fun q36 => ?_)
      ·
        refine s_v (fun _ k => tk_ldc G dX9_nearest_39 wK_X9_151 (tk_goto (tgt := 51) G dX9_nearest_41 (by decide) k)) ?_
        exact hJ51 _ _
      ·
        refine s_v (fun _ k => tk_aload_n G dX9_nearest_44 0 rfl (tk_iload G dX9_nearest_45 4 rfl (tk_iload_n G dX9_nearest_47 1 rfl k))) ?_
        refine s_callVI (As := [.int y22_4, .int a1]) G dX9_nearest_48 wY_X9_costOf wM_X9_172 wI_X9_costOf wS_X9_costOf (tk_rm hR (by decide) (by decide)) kX9 k0 (by decide) (c_X9_costOf E g22 a0 y22_4 a1 k0) rfl rfl (Nat.le_of_ble_eq_true rfl) ⟨Nat.zero_le _, Nat.zero_le _⟩ (fun x48 => ?_)
        exact hJ51 _ _
theorem c_X9_nearest (E : tkE) (h : tkH) (a0 : Nat) (a1 : Int32) (k0 : kd a0 = 12) : ∀ x, f_X9_nearest h a0 a1 = some x → tkM E yX9_nearest cX9_nearest 6 (some .int) 6 tkF [.ref (e_ad E a0), .int a1] h (some (.int x.1)) x.2 := fun x hx => tkM_of (by decide) (Nat.le_of_ble_eq_true rfl) (fun _ hR G => w_X9_nearest hR G h a0 a1 k0 x hx)
set_option maxRecDepth 100000 in
set_option maxHeartbeats 4000000 in
theorem w_X9_sourceOf {E : tkE} {X : tkX} (hR : x_R X = tkR 6) (G : tkG E X cX9_sourceOf 8 RX9 (some .int)) (h : tkH) (a0 : Nat) (a1 : Int32) (k0 : kd a0 = 12) : tkS E X 8 0 0 (tkZi E X) 0 [(0, .ref (e_ad E a0)), (1, .int a1)] [] h (f_X9_sourceOf h a0 a1) := by
  unfold f_X9_sourceOf
  refine s_v (fun _ k => tk_aload_n G dX9_sourceOf_0 0 rfl (tk_gr G kX9 dX9_sourceOf_1 wF_X9_9 k0 gR_9_0 (tk_bipush G dX9_sourceOf_4 cB_80 (tk_iload_n G dX9_sourceOf_6 1 rfl (tk_iadd G dX9_sourceOf_7 k))))) ?_
  refine s_iald G dX9_sourceOf_8 (kF_9_0 k0) (fun v8 => ?_)
  refine s_if_lt (tgt := 22) G dX9_sourceOf_9 (by decide) (fun q9 => ?_) (fun q9 => ?_)
  ·
    refine s_v (fun _ k => tk_iconst G dX9_sourceOf_22 cI_m1 (tk_istore_n (al' := [(2, .int (-1)), (0, .ref (e_ad E a0)), (1, .int a1)]) G dX9_sourceOf_23 (by decide) rfl (tk_iconst G dX9_sourceOf_24 cI_0 (tk_istore_n (al' := [(3, .int 0), (2, .int (-1)), (0, .ref (e_ad E a0)), (1, .int a1)]) G dX9_sourceOf_25 (by decide) rfl (tk_iconst G dX9_sourceOf_26 cI_0 (tk_istore (al' := [(4, .int 0), (3, .int 0), (2, .int (-1)), (0, .ref (e_ad E a0)), (1, .int a1)]) G dX9_sourceOf_27 (by decide) rfl k)))))) ?_
    refine s_sub [3, 4, 2, 1, 0] (al' := [(0, .ref (e_ad E a0)), (1, .int a1), (2, .int (-1)), (3, .int 0), (4, .int 0)]) rfl ?_
    unfold f_X9_sourceOf_L29
    refine s_lp3 (al := fun y29_2 y29_3 y29_4 => [(0, .ref (e_ad E a0)), (1, .int a1), (2, .int y29_2), (3, .int y29_3), (4, .int y29_4)]) (fun kk29 hL29 g29 y29_2 y29_3 y29_4 => ?_) _ _ _ _ _
    refine s_v (fun _ k => tk_iload G dX9_sourceOf_29 4 rfl (tk_aload_n G dX9_sourceOf_31 0 rfl (tk_gr G kX9 dX9_sourceOf_32 wF_X9_9 k0 gR_9_0 (tk_iconst G dX9_sourceOf_35 cI_0 k)))) ?_
    refine s_iald G dX9_sourceOf_36 (kF_9_0 k0) (fun v36 => ?_)
    refine s_icmp_ge (tgt := 155) G dX9_sourceOf_37 (by decide) (fun q37 => ?_) (fun q37 => ?_)
    ·
      refine s_v (fun _ k => tk_iload_n G dX9_sourceOf_155 2 rfl k) ?_
      exact s_iret G dX9_sourceOf_156
    ·
      refine s_v (fun _ k => tk_aload_n G dX9_sourceOf_40 0 rfl (tk_gr G kX9 dX9_sourceOf_41 wF_X9_9 k0 gR_9_0 (tk_bipush G dX9_sourceOf_44 cB_60 (tk_iload G dX9_sourceOf_46 4 rfl (tk_iadd G dX9_sourceOf_48 k))))) ?_
      refine s_iald G dX9_sourceOf_49 (kF_9_0 k0) (fun v49 => ?_)
      refine s_v (fun _ k => tk_istore (al' := [(5, .int v49), (0, .ref (e_ad E a0)), (1, .int a1), (2, .int y29_2), (3, .int y29_3), (4, .int y29_4)]) G dX9_sourceOf_50 (by decide) rfl (tk_iload G dX9_sourceOf_52 0 rfl (tk_aload_n G dX9_sourceOf_54 1 rfl (tk_gr G kX9 dX9_sourceOf_55 wF_X9_9 k0 gR_9_0 (tk_iconst G dX9_sourceOf_58 cI_4 (tk_bipush G dX9_sourceOf_59 cB_6 (tk_aload_n G dX9_sourceOf_61 1 rfl (tk_gr G kX9 dX9_sourceOf_62 wF_X9_9 k0 gR_9_0 (tk_bipush G dX9_sourceOf_65 cB_50 (tk_iload G dX9_sourceOf_67 5 rfl (tk_iadd G dX9_sourceOf_69 k))))))))))) ?_
      refine s_iald G dX9_sourceOf_70 (kF_9_0 k0) (fun v70 => ?_)
      refine s_v (fun _ k => tk_imul G dX9_sourceOf_71 (tk_iadd G dX9_sourceOf_72 (tk_aload_n G dX9_sourceOf_73 1 rfl (tk_gr G kX9 dX9_sourceOf_74 wF_X9_9 k0 gR_9_0 (tk_bipush G dX9_sourceOf_77 cB_50 (tk_iload_n G dX9_sourceOf_79 2 rfl (tk_iadd G dX9_sourceOf_80 k))))))) ?_
      refine s_iald G dX9_sourceOf_81 (kF_9_0 k0) (fun v81 => ?_)
      refine s_v (fun _ k => tk_iadd G dX9_sourceOf_82 k) ?_
      refine s_iald G dX9_sourceOf_83 (kF_9_0 k0) (fun v83 => ?_)
      refine s_v (fun _ k => tk_iadd G dX9_sourceOf_84 (tk_istore (al' := [(6, .int (v49 + v83)), (5, .int v49), (0, .ref (e_ad E a0)), (1, .int a1), (2, .int y29_2), (3, .int y29_3), (4, .int y29_4)]) G dX9_sourceOf_85 (by decide) rfl (tk_iload G dX9_sourceOf_87 6 rfl (tk_iload_n G dX9_sourceOf_89 3 rfl k)))) ?_
      refine s_icmp_eq (tgt := 149) G dX9_sourceOf_90 (by decide) (fun q90 => ?_) (fun q90 => ?_)
      ·
        refine s_v (fun _ k => tk_iinc (al' := [(4, .int (y29_4 + 1)), (6, .int (v49 + v83)), (5, .int v49), (0, .ref (e_ad E a0)), (1, .int a1), (2, .int y29_2), (3, .int y29_3)]) G dX9_sourceOf_149 6 rfl (ci_1 _) (by decide) rfl (tk_goto (tgt := 29) G dX9_sourceOf_152 (by decide) k)) ?_
        refine s_sub [3, 4, 5, 6, 0] (al' := [(0, .ref (e_ad E a0)), (1, .int a1), (2, .int y29_2), (3, .int y29_3), (4, .int (y29_4 + 1))]) rfl ?_
        exact hL29 _ _ _ _
      ·
        refine s_v (fun _ k => tk_iload G dX9_sourceOf_93 1 rfl (tk_aload_n G dX9_sourceOf_95 2 rfl (tk_gr G kX9 dX9_sourceOf_96 wF_X9_9 k0 gR_9_0 (tk_bipush G dX9_sourceOf_99 cB_60 (tk_iload_n G dX9_sourceOf_101 3 rfl (tk_iadd G dX9_sourceOf_102 k)))))) ?_
        refine s_iald G dX9_sourceOf_103 (kF_9_0 k0) (fun v103 => ?_)
        refine s_icmp_ge (tgt := 149) G dX9_sourceOf_104 (by decide) (fun q104 => ?_) (fun q104 => ?_)
        ·
          refine s_v (fun _ k => tk_iinc (al' := [(4, .int (y29_4 + 1)), (6, .int (v49 + v83)), (5, .int v49), (0, .ref (e_ad E a0)), (1, .int a1), (2, .int y29_2), (3, .int y29_3)]) G dX9_sourceOf_149 6 rfl (ci_1 _) (by decide) rfl (tk_goto (tgt := 29) G dX9_sourceOf_152 (by decide) k)) ?_
          refine s_sub [3, 4, 5, 6, 0] (al' := [(0, .ref (e_ad E a0)), (1, .int a1), (2, .int y29_2), (3, .int y29_3), (4, .int (y29_4 + 1))]) rfl ?_
          exact hL29 _ _ _ _
        ·
          refine s_v (fun _ k => tk_iload G dX9_sourceOf_107 0 rfl (tk_aload_n G dX9_sourceOf_109 2 rfl (tk_gr G kX9 dX9_sourceOf_110 wF_X9_9 k0 gR_9_0 (tk_bipush G dX9_sourceOf_113 cB_60 (tk_iload_n G dX9_sourceOf_115 3 rfl (tk_iadd G dX9_sourceOf_116 k)))))) ?_
          refine s_iald G dX9_sourceOf_117 (kF_9_0 k0) (fun v117 => ?_)
          refine s_icmp_le (tgt := 124) G dX9_sourceOf_118 (by decide) (fun q118 => ?_) (fun q118 => ?_)
          ·
            refine s_v (fun _ k => tk_aload_n G dX9_sourceOf_124 2 rfl (tk_iload G dX9_sourceOf_125 6 rfl (tk_iload_n G dX9_sourceOf_127 3 rfl k))) ?_
            refine s_callVI (As := [.int y29_4, .int a1]) G dX9_sourceOf_128 wY_X9_costOf wM_X9_172 wI_X9_costOf wS_X9_costOf (tk_rm hR (by decide) (by decide)) kX9 k0 (by decide) (c_X9_costOf E g29 a0 y29_4 a1 k0) rfl rfl (Nat.le_of_ble_eq_true rfl) ⟨Nat.zero_le _, Nat.zero_le _⟩ (fun x128 => ?_)
            refine s_v (fun _ k => tk_istore (al' := [(7, .int x128.1), (6, .int (v49 + v83)), (5, .int v49), (0, .ref (e_ad E a0)), (1, .int a1), (2, .int y29_2), (3, .int y29_3), (4, .int y29_4)]) G dX9_sourceOf_131 (by decide) rfl (tk_iload_n G dX9_sourceOf_133 5 rfl k)) ?_
            have hJ143 : ∀ (g143 : tkH), tkS E X 8 0 0 (tkZi E X) 143 [(0, .ref (e_ad E a0)), (1, .int a1), (4, .int y29_4), (7, .int x128.1)] [] g143 (f_X9_sourceOf_J143 kk29 y29_4 x128 g143) := by
              intro g143
              unfold f_X9_sourceOf_J143
              refine s_v (fun _ k => tk_iload G dX9_sourceOf_143 2 rfl (tk_istore_n (al' := [(2, .int y29_4), (0, .ref (e_ad E a0)), (1, .int a1), (4, .int y29_4), (7, .int x128.1)]) G dX9_sourceOf_145 (by decide) rfl (tk_iload G dX9_sourceOf_146 4 rfl (tk_istore_n (al' := [(3, .int x128.1), (2, .int y29_4), (0, .ref (e_ad E a0)), (1, .int a1), (4, .int y29_4), (7, .int x128.1)]) G dX9_sourceOf_148 (by decide) rfl (tk_iinc (al' := [(4, .int (y29_4 + 1)), (3, .int x128.1), (2, .int y29_4), (0, .ref (e_ad E a0)), (1, .int a1), (7, .int x128.1)]) G dX9_sourceOf_149 4 rfl (ci_1 _) (by decide) rfl (tk_goto (tgt := 29) G dX9_sourceOf_152 (by decide) k)))))) ?_
              refine s_sub [3, 4, 2, 1, 0] (al' := [(0, .ref (e_ad E a0)), (1, .int a1), (2, .int y29_4), (3, .int x128.1), (4, .int (y29_4 + 1))]) rfl ?_
              exact hL29 _ _ _ _
            refine s_if_lt (tgt := 143) G dX9_sourceOf_134 (by decide) (fun q134 => ?_) (fun q134 => ?_)
            ·
              refine s_sub [3, 4, 7, 0] (al' := [(0, .ref (e_ad E a0)), (1, .int a1), (4, .int y29_4), (7, .int x128.1)]) rfl ?_
              exact hJ143 _
            ·
              refine s_v (fun _ k => tk_iload G dX9_sourceOf_137 0 rfl (tk_iload_n G dX9_sourceOf_139 6 rfl k)) ?_
              refine s_icmp_ge (tgt := 149) G dX9_sourceOf_140 (by decide) (fun q140 => ?_) (fun q140 => ?_)
              ·
                refine s_v (fun _ k => tk_iinc (al' := [(4, .int (y29_4 + 1)), (7, .int x128.1), (6, .int (v49 + v83)), (5, .int v49), (0, .ref (e_ad E a0)), (1, .int a1), (2, .int y29_2), (3, .int y29_3)]) G dX9_sourceOf_149 7 rfl (ci_1 _) (by decide) rfl (tk_goto (tgt := 29) G dX9_sourceOf_152 (by decide) k)) ?_
                refine s_sub [4, 5, 6, 7, 0] (al' := [(0, .ref (e_ad E a0)), (1, .int a1), (2, .int y29_2), (3, .int y29_3), (4, .int (y29_4 + 1))]) rfl ?_
                exact hL29 _ _ _ _
              ·
                refine s_sub [3, 4, 7, 0] (al' := [(0, .ref (e_ad E a0)), (1, .int a1), (4, .int y29_4), (7, .int x128.1)]) rfl ?_
                exact hJ143 _
          ·
            refine s_v (fun _ k => tk_goto (tgt := 149) G dX9_sourceOf_121 (by decide) k) ?_
            refine s_v (fun _ k => tk_iinc (al' := [(4, .int (y29_4 + 1)), (6, .int (v49 + v83)), (5, .int v49), (0, .ref (e_ad E a0)), (1, .int a1), (2, .int y29_2), (3, .int y29_3)]) G dX9_sourceOf_149 6 rfl (ci_1 _) (by decide) rfl (tk_goto (tgt := 29) G dX9_sourceOf_152 (by decide) k)) ?_
            refine s_sub [3, 4, 5, 6, 0] (al' := [(0, .ref (e_ad E a0)), (1, .int a1), (2, .int y29_2), (3, .int y29_3), (4, .int (y29_4 + 1))]) rfl ?_
            exact hL29 _ _ _ _
  ·
    refine s_v (fun _ k => tk_aload_n G dX9_sourceOf_12 0 rfl (tk_gr G kX9 dX9_sourceOf_13 wF_X9_9 k0 gR_9_0 (tk_bipush G dX9_sourceOf_16 cB_80 (tk_iload_n G dX9_sourceOf_18 1 rfl (tk_iadd G dX9_sourceOf_19 k))))) ?_
    refine s_iald G dX9_sourceOf_20 (kF_9_0 k0) (fun v20 => ?_)
    exact s_iret G dX9_sourceOf_21
theorem c_X9_sourceOf (E : tkE) (h : tkH) (a0 : Nat) (a1 : Int32) (k0 : kd a0 = 12) : ∀ x, f_X9_sourceOf h a0 a1 = some x → tkM E yX9_sourceOf cX9_sourceOf 8 (some .int) 6 tkF [.ref (e_ad E a0), .int a1] h (some (.int x.1)) x.2 := fun x hx => tkM_of (by decide) (Nat.le_of_ble_eq_true rfl) (fun _ hR G => w_X9_sourceOf hR G h a0 a1 k0 x hx)
set_option maxRecDepth 100000 in
set_option maxHeartbeats 4000000 in
theorem w_X9_sumOf {E : tkE} {X : tkX} (hR : x_R X = tkR 6) (G : tkG E X cX9_sumOf 5 RX9 (some .int)) (h : tkH) (a0 : Nat) (a1 : Int32) (a2 : Int32) (k0 : kd a0 = 12) : tkS E X 5 0 0 (tkZi E X) 0 [(0, .ref (e_ad E a0)), (1, .int a1), (2, .int a2)] [] h (f_X9_sumOf h a0 a1 a2) := by
  unfold f_X9_sumOf
  refine s_v (fun _ k => tk_iconst G dX9_sumOf_0 cI_0 (tk_istore_n (al' := [(3, .int 0), (0, .ref (e_ad E a0)), (1, .int a1), (2, .int a2)]) G dX9_sumOf_1 (by decide) rfl (tk_iconst G dX9_sumOf_2 cI_0 (tk_istore (al' := [(4, .int 0), (3, .int 0), (0, .ref (e_ad E a0)), (1, .int a1), (2, .int a2)]) G dX9_sumOf_3 (by decide) rfl k)))) ?_
  refine s_sub [2, 3, 4, 1, 0] (al' := [(0, .ref (e_ad E a0)), (1, .int a1), (2, .int a2), (3, .int 0), (4, .int 0)]) rfl ?_
  unfold f_X9_sumOf_L5
  refine s_lp2 (al := fun y5_3 y5_4 => [(0, .ref (e_ad E a0)), (1, .int a1), (2, .int a2), (3, .int y5_3), (4, .int y5_4)]) (fun kk5 hL5 g5 y5_3 y5_4 => ?_) _ _ _ _
  refine s_v (fun _ k => tk_iload G dX9_sumOf_5 4 rfl (tk_aload_n G dX9_sumOf_7 0 rfl (tk_gr G kX9 dX9_sumOf_8 wF_X9_9 k0 gR_9_0 (tk_iconst G dX9_sumOf_11 cI_0 k)))) ?_
  refine s_iald G dX9_sumOf_12 (kF_9_0 k0) (fun v12 => ?_)
  refine s_icmp_ge (tgt := 46) G dX9_sumOf_13 (by decide) (fun q13 => ?_) (fun q13 => ?_)
  ·
    refine s_v (fun _ k => tk_iload_n G dX9_sumOf_46 3 rfl k) ?_
    exact s_iret G dX9_sumOf_47
  ·
    refine s_v (fun _ k => tk_iload_n G dX9_sumOf_16 3 rfl (tk_iload_n G dX9_sumOf_17 2 rfl (tk_iload G dX9_sumOf_18 4 rfl (tk_ishr G dX9_sumOf_20 (tk_iconst G dX9_sumOf_21 cI_1 (tk_iand G dX9_sumOf_22 (tk_iconst G dX9_sumOf_23 cI_1 k))))))) ?_
    refine s_icmp_ne (tgt := 37) G dX9_sumOf_24 (by decide) (fun q24 => ?_) (fun q24 => ?_)
    ·
      refine s_v (fun _ k => tk_aload_n G dX9_sumOf_27 0 rfl (tk_iload_n G dX9_sumOf_28 1 rfl (tk_iload G dX9_sumOf_29 4 rfl k))) ?_
      refine s_callVI (As := [.int a1, .int y5_4]) G dX9_sumOf_31 wY_X9_costOf wM_X9_172 wI_X9_costOf wS_X9_costOf (tk_rm hR (by decide) (by decide)) kX9 k0 (by decide) (c_X9_costOf E g5 a0 a1 y5_4 k0) rfl rfl (Nat.le_of_ble_eq_true rfl) ⟨Nat.zero_le _, Nat.zero_le _⟩ (fun x31 => ?_)
      refine s_v (fun _ k => tk_goto (tgt := 38) G dX9_sumOf_34 (by decide) k) ?_
      refine s_v (fun _ k => tk_iadd G dX9_sumOf_38 (tk_istore_n (al' := [(3, .int (y5_3 + x31.1)), (0, .ref (e_ad E a0)), (1, .int a1), (2, .int a2), (4, .int y5_4)]) G dX9_sumOf_39 (by decide) rfl (tk_iinc (al' := [(4, .int (y5_4 + 1)), (3, .int (y5_3 + x31.1)), (0, .ref (e_ad E a0)), (1, .int a1), (2, .int a2)]) G dX9_sumOf_40 4 rfl (ci_1 _) (by decide) rfl (tk_goto (tgt := 5) G dX9_sumOf_43 (by decide) k)))) ?_
      refine s_sub [2, 3, 4, 1, 0] (al' := [(0, .ref (e_ad E a0)), (1, .int a1), (2, .int a2), (3, .int (y5_3 + x31.1)), (4, .int (y5_4 + 1))]) rfl ?_
      exact hL5 _ _ _
    ·
      refine s_v (fun _ k => tk_iconst G dX9_sumOf_37 cI_0 (tk_iadd G dX9_sumOf_38 (tk_istore_n (al' := [(3, .int (y5_3 + 0)), (0, .ref (e_ad E a0)), (1, .int a1), (2, .int a2), (4, .int y5_4)]) G dX9_sumOf_39 (by decide) rfl (tk_iinc (al' := [(4, .int (y5_4 + 1)), (3, .int (y5_3 + 0)), (0, .ref (e_ad E a0)), (1, .int a1), (2, .int a2)]) G dX9_sumOf_40 4 rfl (ci_1 _) (by decide) rfl (tk_goto (tgt := 5) G dX9_sumOf_43 (by decide) k))))) ?_
      refine s_sub [2, 3, 4, 1, 0] (al' := [(0, .ref (e_ad E a0)), (1, .int a1), (2, .int a2), (3, .int (y5_3 + 0)), (4, .int (y5_4 + 1))]) rfl ?_
      exact hL5 _ _ _
theorem c_X9_sumOf (E : tkE) (h : tkH) (a0 : Nat) (a1 : Int32) (a2 : Int32) (k0 : kd a0 = 12) : ∀ x, f_X9_sumOf h a0 a1 a2 = some x → tkM E yX9_sumOf cX9_sumOf 5 (some .int) 6 tkF [.ref (e_ad E a0), .int a1, .int a2] h (some (.int x.1)) x.2 := fun x hx => tkM_of (by decide) (Nat.le_of_ble_eq_true rfl) (fun _ hR G => w_X9_sumOf hR G h a0 a1 a2 k0 x hx)
set_option maxRecDepth 100000 in
set_option maxHeartbeats 4000000 in
theorem w_X9_branch {E : tkE} {X : tkX} (hR : x_R X = tkR 7) (G : tkG E X cX9_branch 3 RX9 (some .int)) (h : tkH) (a0 : Nat) (a1 : Int32) (a2 : Int32) (k0 : kd a0 = 12) : tkS E X 3 0 0 (tkZi E X) 0 [(0, .ref (e_ad E a0)), (1, .int a1), (2, .int a2)] [] h (f_X9_branch h a0 a1 a2) := by
  unfold f_X9_branch
  refine s_v (fun _ k => tk_aload_n G dX9_branch_0 0 rfl (tk_iload_n G dX9_branch_1 1 rfl k)) ?_
  refine s_callVI (As := [.int a1]) G dX9_branch_2 wY_X9_noHeap wM_X9_184 wI_X9_noHeap wS_X9_noHeap (tk_rm hR (by decide) (by decide)) kX9 k0 (by decide) (c_X9_noHeap E h a0 a1 k0) rfl rfl (Nat.le_of_ble_eq_true rfl) ⟨Nat.zero_le _, Nat.zero_le _⟩ (fun x2 => ?_)
  refine s_if_eq (tgt := 18) G dX9_branch_5 (by decide) (fun q5 => ?_) (fun q5 => ?_)
  ·
    refine s_v (fun _ k => tk_aload_n G dX9_branch_18 0 rfl (tk_iload_n G dX9_branch_19 1 rfl k)) ?_
    refine s_callVV (As := [.int a1]) G dX9_branch_20 wY_X9_findTree wM_X9_199 wI_X9_findTree wS_X9_findTree (tk_rm hR (by decide) (by decide)) kX9 k0 (by decide) (c_X9_findTree E x2.2 a0 a1 k0) rfl rfl (Nat.le_of_ble_eq_true rfl) ⟨Nat.zero_le _, Nat.zero_le _⟩ (fun x20 => ?_)
    refine s_v (fun _ k => tk_iload_n G dX9_branch_23 2 rfl (tk_iconst G dX9_branch_24 cI_0 (tk_aload_n G dX9_branch_25 0 rfl (tk_gi G kX9 dX9_branch_26 wF_X9_190 k0 gI_9_23 (tk_iconst G dX9_branch_29 cI_1 (tk_isub G dX9_branch_30 k)))))) ?_
    refine s_callSI (As := [.int a2, .int 0, .int ((x20 a0 23) - 1)]) G dX9_branch_31 wY_X9_within wM_X9_50 wI_X9_within (tk_rm hR (by decide) (by decide)) (c_X9_within E x20 a2 0 ((x20 a0 23) - 1)) rfl rfl (Nat.le_of_ble_eq_true rfl) ⟨Nat.zero_le _, Nat.zero_le _⟩ (fun x31 => ?_)
    refine s_if_eq (tgt := 46) G dX9_branch_34 (by decide) (fun q34 => ?_) (fun q34 => ?_)
    ·
      refine s_v (fun _ k => tk_aload_n G dX9_branch_46 0 rfl (tk_ldc G dX9_branch_47 wK_X9_57 k)) ?_
      refine s_callVI (As := [.int (-100006)]) G dX9_branch_49 wY_X9_finding wM_X9_58 wI_X9_finding wS_X9_finding (tk_rm hR (by decide) (by decide)) kX9 k0 (by decide) (c_X9_finding E x31.2 a0 (-100006) k0) rfl rfl (Nat.le_of_ble_eq_true rfl) ⟨Nat.zero_le _, Nat.zero_le _⟩ (fun x49 => ?_)
      exact s_iret G dX9_branch_52
    ·
      refine s_v (fun _ k => tk_aload_n G dX9_branch_37 0 rfl (tk_gr G kX9 dX9_branch_38 wF_X9_40 k0 gR_9_22 (tk_iload_n G dX9_branch_41 2 rfl k))) ?_
      refine s_iald G dX9_branch_42 (kF_9_22 k0) (fun v42 => ?_)
      refine s_v (fun _ k => tk_goto (tgt := 52) G dX9_branch_43 (by decide) k) ?_
      exact s_iret G dX9_branch_52
  ·
    refine s_v (fun _ k => tk_aload_n G dX9_branch_8 0 rfl (tk_aload_n G dX9_branch_9 0 rfl (tk_iload_n G dX9_branch_10 1 rfl k))) ?_
    refine s_callVI (As := [.int a1]) G dX9_branch_11 wY_X9_noHeap wM_X9_184 wI_X9_noHeap wS_X9_noHeap (tk_rm hR (by decide) (by decide)) kX9 k0 (by decide) (c_X9_noHeap E x2.2 a0 a1 k0) rfl rfl (Nat.le_of_ble_eq_true rfl) ⟨Nat.zero_le _, Nat.zero_le _⟩ (fun x11 => ?_)
    refine s_callVI (As := [.int x11.1]) G dX9_branch_14 wY_X9_finding wM_X9_58 wI_X9_finding wS_X9_finding (tk_rm hR (by decide) (by decide)) kX9 k0 (by decide) (c_X9_finding E x11.2 a0 x11.1 k0) rfl rfl (Nat.le_of_ble_eq_true rfl) ⟨Nat.zero_le _, Nat.zero_le _⟩ (fun x14 => ?_)
    exact s_iret G dX9_branch_17
theorem c_X9_branch (E : tkE) (h : tkH) (a0 : Nat) (a1 : Int32) (a2 : Int32) (k0 : kd a0 = 12) : ∀ x, f_X9_branch h a0 a1 a2 = some x → tkM E yX9_branch cX9_branch 3 (some .int) 7 tkF [.ref (e_ad E a0), .int a1, .int a2] h (some (.int x.1)) x.2 := fun x hx => tkM_of (by decide) (Nat.le_of_ble_eq_true rfl) (fun _ hR G => w_X9_branch hR G h a0 a1 a2 k0 x hx)
set_option maxRecDepth 100000 in
set_option maxHeartbeats 4000000 in
theorem w_X9_first {E : tkE} {X : tkX} (hR : x_R X = tkR 7) (G : tkG E X cX9_first 5 RX9 (some .int)) (h : tkH) (a0 : Nat) (a1 : Int32) (k0 : kd a0 = 12) : tkS E X 5 0 0 (tkZi E X) 0 [(0, .ref (e_ad E a0)), (1, .int a1)] [] h (f_X9_first h a0 a1) := by
  unfold f_X9_first
  refine s_v (fun _ k => tk_aload_n G dX9_first_0 0 rfl (tk_iload_n G dX9_first_1 1 rfl k)) ?_
  refine s_callVI (As := [.int a1]) G dX9_first_2 wY_X9_isTale wM_X9_71 wI_X9_isTale wS_X9_isTale (tk_rm hR (by decide) (by decide)) kX9 k0 (by decide) (c_X9_isTale E h a0 a1 k0) rfl rfl (Nat.le_of_ble_eq_true rfl) ⟨Nat.zero_le _, Nat.zero_le _⟩ (fun x2 => ?_)
  refine s_if_ne (tgt := 15) G dX9_first_5 (by decide) (fun q5 => ?_) (fun q5 => ?_)
  ·
    refine s_v (fun _ k => tk_aload_n G dX9_first_8 0 rfl (tk_ldc G dX9_first_9 wK_X9_66 k)) ?_
    refine s_callVI (As := [.int (-100001)]) G dX9_first_11 wY_X9_finding wM_X9_58 wI_X9_finding wS_X9_finding (tk_rm hR (by decide) (by decide)) kX9 k0 (by decide) (c_X9_finding E x2.2 a0 (-100001) k0) rfl rfl (Nat.le_of_ble_eq_true rfl) ⟨Nat.zero_le _, Nat.zero_le _⟩ (fun x11 => ?_)
    exact s_iret G dX9_first_14
  ·
    refine s_v (fun _ k => tk_iload_n G dX9_first_15 1 rfl (tk_istore_n (al' := [(2, .int a1), (0, .ref (e_ad E a0)), (1, .int a1)]) G dX9_first_16 (by decide) rfl (tk_iconst G dX9_first_17 cI_0 (tk_istore_n (al' := [(3, .int 0), (2, .int a1), (0, .ref (e_ad E a0)), (1, .int a1)]) G dX9_first_18 (by decide) rfl k)))) ?_
    have hX48 : ∀ (gz48 : tkH), tkS E X 5 0 0 (tkZi E X) 48 [(0, .ref (e_ad E a0))] [] gz48 ((f_X9_finding gz48 a0 (-100007)).bind fun x51 => some (x51.1, x51.2)) := by
      intro gz48
      refine s_v (fun _ k => tk_aload_n G dX9_first_48 0 rfl (tk_ldc G dX9_first_49 wK_X9_102 k)) ?_
      refine s_callVI (As := [.int (-100007)]) G dX9_first_51 wY_X9_finding wM_X9_58 wI_X9_finding wS_X9_finding (tk_rm hR (by decide) (by decide)) kX9 k0 (by decide) (c_X9_finding E gz48 a0 (-100007) k0) rfl rfl (Nat.le_of_ble_eq_true rfl) ⟨Nat.zero_le _, Nat.zero_le _⟩ (fun x51 => ?_)
      exact s_iret G dX9_first_54
    refine s_sub [2, 1, 0] (al' := [(0, .ref (e_ad E a0)), (2, .int a1), (3, .int 0)]) rfl ?_
    unfold f_X9_first_L19
    refine s_lp2 (al := fun y19_2 y19_3 => [(0, .ref (e_ad E a0)), (2, .int y19_2), (3, .int y19_3)]) (fun kk19 hL19 g19 y19_2 y19_3 => ?_) _ _ _ _
    refine s_v (fun _ k => tk_iload_n G dX9_first_19 2 rfl (tk_bipush G dX9_first_20 cB_10 k)) ?_
    refine s_icmp_gt (tgt := 48) G dX9_first_22 (by decide) (fun q22 => ?_) (fun q22 => ?_)
    ·
      refine s_sub [0] (al' := [(0, .ref (e_ad E a0))]) rfl ?_
      exact hX48 _
    ·
      refine s_v (fun _ k => tk_aload_n G dX9_first_25 0 rfl (tk_iload_n G dX9_first_26 1 rfl k)) ?_
      refine s_callVI (As := [.int y19_2]) G dX9_first_27 wY_X9_sourceOf wM_X9_202 wI_X9_sourceOf wS_X9_sourceOf (tk_rm hR (by decide) (by decide)) kX9 k0 (by decide) (c_X9_sourceOf E g19 a0 y19_2 k0) rfl rfl (Nat.le_of_ble_eq_true rfl) ⟨Nat.zero_le _, Nat.zero_le _⟩ (fun x27 => ?_)
      refine s_v (fun _ k => tk_istore (al' := [(4, .int x27.1), (0, .ref (e_ad E a0)), (2, .int y19_2), (3, .int y19_3)]) G dX9_first_30 (by decide) rfl (tk_iload G dX9_first_32 0 rfl k)) ?_
      refine s_if_ge (tgt := 39) G dX9_first_34 (by decide) (fun q34 => ?_) (fun q34 => ?_)
      ·
        refine s_v (fun _ k => tk_iload G dX9_first_39 0 rfl (tk_istore_n (al' := [(2, .int x27.1), (4, .int x27.1), (0, .ref (e_ad E a0)), (3, .int y19_3)]) G dX9_first_41 (by decide) rfl (tk_iinc (al' := [(3, .int (y19_3 + 1)), (2, .int x27.1), (4, .int x27.1), (0, .ref (e_ad E a0))]) G dX9_first_42 3 rfl (ci_1 _) (by decide) rfl (tk_goto (tgt := 19) G dX9_first_45 (by decide) k)))) ?_
        refine s_sub [3, 1, 0] (al' := [(0, .ref (e_ad E a0)), (2, .int x27.1), (3, .int (y19_3 + 1))]) rfl ?_
        exact hL19 _ _ _
      ·
        refine s_v (fun _ k => tk_iload_n G dX9_first_37 2 rfl k) ?_
        exact s_iret G dX9_first_38
theorem c_X9_first (E : tkE) (h : tkH) (a0 : Nat) (a1 : Int32) (k0 : kd a0 = 12) : ∀ x, f_X9_first h a0 a1 = some x → tkM E yX9_first cX9_first 5 (some .int) 7 tkF [.ref (e_ad E a0), .int a1] h (some (.int x.1)) x.2 := fun x hx => tkM_of (by decide) (Nat.le_of_ble_eq_true rfl) (fun _ hR G => w_X9_first hR G h a0 a1 k0 x hx)
set_option maxRecDepth 100000 in
set_option maxHeartbeats 4000000 in
theorem w_X9_mouldOf {E : tkE} {X : tkX} (hR : x_R X = tkR 7) (G : tkG E X cX9_mouldOf 5 RX9 (some .int)) (h : tkH) (a0 : Nat) (a1 : Int32) (k0 : kd a0 = 12) : tkS E X 5 0 0 (tkZi E X) 0 [(0, .ref (e_ad E a0)), (1, .int a1)] [] h (f_X9_mouldOf h a0 a1) := by
  unfold f_X9_mouldOf
  refine s_v (fun _ k => tk_iconst G dX9_mouldOf_0 cI_m1 (tk_istore_n (al' := [(2, .int (-1)), (0, .ref (e_ad E a0)), (1, .int a1)]) G dX9_mouldOf_1 (by decide) rfl (tk_aload_n G dX9_mouldOf_2 1 rfl (tk_iconst G dX9_mouldOf_3 cI_0 (tk_pi G kX9 dX9_mouldOf_4 wF_X9_178 k0 gP_9_19 (tk_iconst G dX9_mouldOf_7 cI_0 (tk_istore_n (al' := [(3, .int 0), (2, .int (-1)), (0, .ref (e_ad E a0)), (1, .int a1)]) G dX9_mouldOf_8 (by decide) rfl k))))))) ?_
  refine s_sub [2, 3, 1, 0] (al' := [(0, .ref (e_ad E a0)), (1, .int a1), (2, .int (-1)), (3, .int 0)]) rfl ?_
  unfold f_X9_mouldOf_L9
  refine s_lp2 (al := fun y9_2 y9_3 => [(0, .ref (e_ad E a0)), (1, .int a1), (2, .int y9_2), (3, .int y9_3)]) (fun kk9 hL9 g9 y9_2 y9_3 => ?_) _ _ _ _
  refine s_v (fun _ k => tk_iload_n G dX9_mouldOf_9 3 rfl (tk_aload_n G dX9_mouldOf_10 0 rfl (tk_gr G kX9 dX9_mouldOf_11 wF_X9_9 k0 gR_9_0 (tk_iconst G dX9_mouldOf_14 cI_0 k)))) ?_
  refine s_iald G dX9_mouldOf_15 (kF_9_0 k0) (fun v15 => ?_)
  refine s_icmp_ge (tgt := 65) G dX9_mouldOf_16 (by decide) (fun q16 => ?_) (fun q16 => ?_)
  ·
    refine s_v (fun _ k => tk_iload_n G dX9_mouldOf_65 2 rfl k) ?_
    exact s_iret G dX9_mouldOf_66
  ·
    refine s_v (fun _ k => tk_iload_n G dX9_mouldOf_19 1 rfl (tk_iload_n G dX9_mouldOf_20 3 rfl (tk_ishr G dX9_mouldOf_21 (tk_iconst G dX9_mouldOf_22 cI_1 (tk_iand G dX9_mouldOf_23 k))))) ?_
    refine s_if_ne (tgt := 30) G dX9_mouldOf_24 (by decide) (fun q24 => ?_) (fun q24 => ?_)
    ·
      refine s_v (fun _ k => tk_goto (tgt := 59) G dX9_mouldOf_27 (by decide) k) ?_
      refine s_v (fun _ k => tk_iinc (al' := [(3, .int (y9_3 + 1)), (0, .ref (e_ad E a0)), (1, .int a1), (2, .int y9_2)]) G dX9_mouldOf_59 3 rfl (ci_1 _) (by decide) rfl (tk_goto (tgt := 9) G dX9_mouldOf_62 (by decide) k)) ?_
      refine s_sub [1, 2, 3, 0] (al' := [(0, .ref (e_ad E a0)), (1, .int a1), (2, .int y9_2), (3, .int (y9_3 + 1))]) rfl ?_
      exact hL9 _ _ _
    ·
      refine s_v (fun _ k => tk_aload_n G dX9_mouldOf_30 0 rfl (tk_iload_n G dX9_mouldOf_31 3 rfl (tk_iload_n G dX9_mouldOf_32 1 rfl k))) ?_
      refine s_callVI (As := [.int y9_3, .int a1]) G dX9_mouldOf_33 wY_X9_sumOf wM_X9_181 wI_X9_sumOf wS_X9_sumOf (tk_rm hR (by decide) (by decide)) kX9 k0 (by decide) (c_X9_sumOf E g9 a0 y9_3 a1 k0) rfl rfl (Nat.le_of_ble_eq_true rfl) ⟨Nat.zero_le _, Nat.zero_le _⟩ (fun x33 => ?_)
      refine s_v (fun _ k => tk_istore (al' := [(4, .int x33.1), (0, .ref (e_ad E a0)), (1, .int a1), (2, .int y9_2), (3, .int y9_3)]) G dX9_mouldOf_36 (by decide) rfl (tk_iload_n G dX9_mouldOf_38 3 rfl k)) ?_
      have hJ51 : ∀ (g51 : tkH), tkS E X 5 0 0 (tkZi E X) 51 [(0, .ref (e_ad E a0)), (1, .int a1), (3, .int y9_3), (4, .int x33.1)] [] g51 (f_X9_mouldOf_J51 kk9 a0 x33 y9_3 g51) := by
        intro g51
        unfold f_X9_mouldOf_J51
        refine s_v (fun _ k => tk_iload_n G dX9_mouldOf_51 2 rfl (tk_istore_n (al' := [(2, .int y9_3), (0, .ref (e_ad E a0)), (1, .int a1), (3, .int y9_3), (4, .int x33.1)]) G dX9_mouldOf_52 (by decide) rfl (tk_aload_n G dX9_mouldOf_53 1 rfl (tk_iload G dX9_mouldOf_54 4 rfl (tk_pi G kX9 dX9_mouldOf_56 wF_X9_178 k0 gP_9_19 (tk_iinc (al' := [(3, .int (y9_3 + 1)), (2, .int y9_3), (0, .ref (e_ad E a0)), (1, .int a1), (4, .int x33.1)]) G dX9_mouldOf_59 3 rfl (ci_1 _) (by decide) rfl (tk_goto (tgt := 9) G dX9_mouldOf_62 (by decide) k))))))) ?_
        refine s_sub [2, 3, 1, 0] (al' := [(0, .ref (e_ad E a0)), (1, .int a1), (2, .int y9_3), (3, .int (y9_3 + 1))]) rfl ?_
        exact hL9 _ _ _
      refine s_if_lt (tgt := 51) G dX9_mouldOf_39 (by decide) (fun q39 => ?_) (fun q39 => ?_)
      ·
        refine s_sub [1, 2, 4, 0] (al' := [(0, .ref (e_ad E a0)), (1, .int a1), (3, .int y9_3), (4, .int x33.1)]) rfl ?_
        exact hJ51 _
      ·
        refine s_v (fun _ k => tk_iload G dX9_mouldOf_42 0 rfl (tk_aload_n G dX9_mouldOf_44 1 rfl (tk_gi G kX9 dX9_mouldOf_45 wF_X9_178 k0 gI_9_19 k))) ?_
        refine s_icmp_ge (tgt := 59) G dX9_mouldOf_48 (by decide) (fun q48 => ?_) (fun q48 => ?_)
        ·
          refine s_v (fun _ k => tk_iinc (al' := [(3, .int (y9_3 + 1)), (4, .int x33.1), (0, .ref (e_ad E a0)), (1, .int a1), (2, .int y9_2)]) G dX9_mouldOf_59 4 rfl (ci_1 _) (by decide) rfl (tk_goto (tgt := 9) G dX9_mouldOf_62 (by decide) k)) ?_
          refine s_sub [2, 3, 4, 0] (al' := [(0, .ref (e_ad E a0)), (1, .int a1), (2, .int y9_2), (3, .int (y9_3 + 1))]) rfl ?_
          exact hL9 _ _ _
        ·
          refine s_sub [1, 2, 4, 0] (al' := [(0, .ref (e_ad E a0)), (1, .int a1), (3, .int y9_3), (4, .int x33.1)]) rfl ?_
          exact hJ51 _
theorem c_X9_mouldOf (E : tkE) (h : tkH) (a0 : Nat) (a1 : Int32) (k0 : kd a0 = 12) : ∀ x, f_X9_mouldOf h a0 a1 = some x → tkM E yX9_mouldOf cX9_mouldOf 5 (some .int) 7 tkF [.ref (e_ad E a0), .int a1] h (some (.int x.1)) x.2 := fun x hx => tkM_of (by decide) (Nat.le_of_ble_eq_true rfl) (fun _ hR G => w_X9_mouldOf hR G h a0 a1 k0 x hx)
set_option maxRecDepth 100000 in
set_option maxHeartbeats 4000000 in
theorem w_X9_pair {E : tkE} {X : tkX} (hR : x_R X = tkR 7) (G : tkG E X cX9_pair 4 RX9 (some .int)) (h : tkH) (a0 : Nat) (a1 : Int32) (a2 : Int32) (a3 : Int32) (k0 : kd a0 = 12) : tkS E X 4 0 0 (tkZi E X) 0 [(0, .ref (e_ad E a0)), (1, .int a1), (2, .int a2), (3, .int a3)] [] h (f_X9_pair h a0 a1 a2 a3) := by
  unfold f_X9_pair
  refine s_v (fun _ k => tk_aload_n G dX9_pair_0 0 rfl (tk_iload_n G dX9_pair_1 1 rfl k)) ?_
  refine s_callVI (As := [.int a1]) G dX9_pair_2 wY_X9_isTale wM_X9_71 wI_X9_isTale wS_X9_isTale (tk_rm hR (by decide) (by decide)) kX9 k0 (by decide) (c_X9_isTale E h a0 a1 k0) rfl rfl (Nat.le_of_ble_eq_true rfl) ⟨Nat.zero_le _, Nat.zero_le _⟩ (fun x2 => ?_)
  have hJ25 : ∀ (g25 : tkH), tkS E X 4 0 0 (tkZi E X) 25 [(0, .ref (e_ad E a0))] [] g25 (f_X9_pair_J25 a0 g25) := by
    intro g25
    unfold f_X9_pair_J25
    refine s_v (fun _ k => tk_aload_n G dX9_pair_25 0 rfl (tk_ldc G dX9_pair_26 wK_X9_66 k)) ?_
    refine s_callVI (As := [.int (-100001)]) G dX9_pair_28 wY_X9_finding wM_X9_58 wI_X9_finding wS_X9_finding (tk_rm hR (by decide) (by decide)) kX9 k0 (by decide) (c_X9_finding E g25 a0 (-100001) k0) rfl rfl (Nat.le_of_ble_eq_true rfl) ⟨Nat.zero_le _, Nat.zero_le _⟩ (fun x28 => ?_)
    exact s_iret G dX9_pair_31
  refine s_if_eq (tgt := 25) G dX9_pair_5 (by decide) (fun q5 => ?_) (fun q5 => ?_)
  ·
    refine s_sub [0] (al' := [(0, .ref (e_ad E a0))]) rfl ?_
    exact hJ25 _
  ·
    refine s_v (fun _ k => tk_aload_n G dX9_pair_8 0 rfl (tk_iload_n G dX9_pair_9 2 rfl k)) ?_
    refine s_callVI (As := [.int a2]) G dX9_pair_10 wY_X9_isTale wM_X9_71 wI_X9_isTale wS_X9_isTale (tk_rm hR (by decide) (by decide)) kX9 k0 (by decide) (c_X9_isTale E x2.2 a0 a2 k0) rfl rfl (Nat.le_of_ble_eq_true rfl) ⟨Nat.zero_le _, Nat.zero_le _⟩ (fun x10 => ?_)
    refine s_if_eq (tgt := 25) G dX9_pair_13 (by decide) (fun q13 => ?_) (fun q13 => ?_)
    ·
      refine s_sub [0] (al' := [(0, .ref (e_ad E a0))]) rfl ?_
      exact hJ25 _
    ·
      refine s_v (fun _ k => tk_aload_n G dX9_pair_16 0 rfl (tk_iload_n G dX9_pair_17 1 rfl (tk_iload_n G dX9_pair_18 3 rfl k))) ?_
      refine s_callVI (As := [.int a1, .int a3]) G dX9_pair_19 wY_X9_isStep wM_X9_85 wI_X9_isStep wS_X9_isStep (tk_rm hR (by decide) (by decide)) kX9 k0 (by decide) (c_X9_isStep E x10.2 a0 a1 a3 k0) rfl rfl (Nat.le_of_ble_eq_true rfl) ⟨Nat.zero_le _, Nat.zero_le _⟩ (fun x19 => ?_)
      refine s_if_ne (tgt := 32) G dX9_pair_22 (by decide) (fun q22 => ?_) (fun q22 => ?_)
      ·
        refine s_sub [0] (al' := [(0, .ref (e_ad E a0))]) rfl ?_
        exact hJ25 _
      ·
        refine s_v (fun _ k => tk_iload_n G dX9_pair_32 3 rfl (tk_aload_n G dX9_pair_33 0 rfl (tk_iload_n G dX9_pair_34 1 rfl k))) ?_
        refine s_callVI (As := [.int a1]) G dX9_pair_35 wY_X9_laidFrom wM_X9_96 wI_X9_laidFrom wS_X9_laidFrom (tk_rm hR (by decide) (by decide)) kX9 k0 (by decide) (c_X9_laidFrom E x19.2 a0 a1 k0) rfl rfl (Nat.le_of_ble_eq_true rfl) ⟨Nat.zero_le _, Nat.zero_le _⟩ (fun x35 => ?_)
        refine s_v (fun _ k => tk_aload_n G dX9_pair_38 0 rfl (tk_iload_n G dX9_pair_39 1 rfl k)) ?_
        refine s_callVI (As := [.int a1]) G dX9_pair_40 wY_X9_laidTo wM_X9_99 wI_X9_laidTo wS_X9_laidTo (tk_rm hR (by decide) (by decide)) kX9 k0 (by decide) (c_X9_laidTo E x35.2 a0 a1 k0) rfl rfl (Nat.le_of_ble_eq_true rfl) ⟨Nat.zero_le _, Nat.zero_le _⟩ (fun x40 => ?_)
        refine s_v (fun _ k => tk_iconst G dX9_pair_43 cI_1 (tk_isub G dX9_pair_44 k)) ?_
        refine s_callSI (As := [.int a3, .int x35.1, .int (x40.1 - 1)]) G dX9_pair_45 wY_X9_within wM_X9_50 wI_X9_within (tk_rm hR (by decide) (by decide)) (c_X9_within E x40.2 a3 x35.1 (x40.1 - 1)) rfl rfl (Nat.le_of_ble_eq_true rfl) ⟨Nat.zero_le _, Nat.zero_le _⟩ (fun x45 => ?_)
        refine s_if_ne (tgt := 58) G dX9_pair_48 (by decide) (fun q48 => ?_) (fun q48 => ?_)
        ·
          refine s_v (fun _ k => tk_aload_n G dX9_pair_51 0 rfl (tk_ldc G dX9_pair_52 wK_X9_74 k)) ?_
          refine s_callVI (As := [.int (-100004)]) G dX9_pair_54 wY_X9_finding wM_X9_58 wI_X9_finding wS_X9_finding (tk_rm hR (by decide) (by decide)) kX9 k0 (by decide) (c_X9_finding E x45.2 a0 (-100004) k0) rfl rfl (Nat.le_of_ble_eq_true rfl) ⟨Nat.zero_le _, Nat.zero_le _⟩ (fun x54 => ?_)
          exact s_iret G dX9_pair_57
        ·
          refine s_v (fun _ k => tk_aload_n G dX9_pair_58 0 rfl (tk_iload_n G dX9_pair_59 1 rfl (tk_iload_n G dX9_pair_60 2 rfl k))) ?_
          refine s_callVV (As := [.int a1, .int a2]) G dX9_pair_61 wY_X9_findPairs wM_X9_175 wI_X9_findPairs wS_X9_findPairs (tk_rm hR (by decide) (by decide)) kX9 k0 (by decide) (c_X9_findPairs E x45.2 a0 a1 a2 k0) rfl rfl (Nat.le_of_ble_eq_true rfl) ⟨Nat.zero_le _, Nat.zero_le _⟩ (fun x61 => ?_)
          refine s_v (fun _ k => tk_aload_n G dX9_pair_64 0 rfl (tk_gr G kX9 dX9_pair_65 wF_X9_31 k0 gR_9_18 (tk_iload_n G dX9_pair_68 3 rfl k))) ?_
          refine s_iald G dX9_pair_69 (kF_9_18 k0) (fun v69 => ?_)
          exact s_iret G dX9_pair_70
theorem c_X9_pair (E : tkE) (h : tkH) (a0 : Nat) (a1 : Int32) (a2 : Int32) (a3 : Int32) (k0 : kd a0 = 12) : ∀ x, f_X9_pair h a0 a1 a2 a3 = some x → tkM E yX9_pair cX9_pair 4 (some .int) 7 tkF [.ref (e_ad E a0), .int a1, .int a2, .int a3] h (some (.int x.1)) x.2 := fun x hx => tkM_of (by decide) (Nat.le_of_ble_eq_true rfl) (fun _ hR G => w_X9_pair hR G h a0 a1 a2 a3 k0 x hx)
set_option maxRecDepth 100000 in
set_option maxHeartbeats 4000000 in
theorem w_X9_pairs {E : tkE} {X : tkX} (hR : x_R X = tkR 7) (G : tkG E X cX9_pairs 6 RX9 (some .int)) (h : tkH) (a0 : Nat) (a1 : Int32) (a2 : Int32) (a3 : Int32) (k0 : kd a0 = 12) : tkS E X 6 0 0 (tkZi E X) 0 [(0, .ref (e_ad E a0)), (1, .int a1), (2, .int a2), (3, .int a3)] [] h (f_X9_pairs h a0 a1 a2 a3) := by
  unfold f_X9_pairs
  refine s_v (fun _ k => tk_aload_n G dX9_pairs_0 0 rfl (tk_iload_n G dX9_pairs_1 1 rfl k)) ?_
  refine s_callVI (As := [.int a1]) G dX9_pairs_2 wY_X9_isTale wM_X9_71 wI_X9_isTale wS_X9_isTale (tk_rm hR (by decide) (by decide)) kX9 k0 (by decide) (c_X9_isTale E h a0 a1 k0) rfl rfl (Nat.le_of_ble_eq_true rfl) ⟨Nat.zero_le _, Nat.zero_le _⟩ (fun x2 => ?_)
  have hJ16 : ∀ (g16 : tkH), tkS E X 6 0 0 (tkZi E X) 16 [(0, .ref (e_ad E a0))] [] g16 (f_X9_pairs_J16 a0 g16) := by
    intro g16
    unfold f_X9_pairs_J16
    refine s_v (fun _ k => tk_aload_n G dX9_pairs_16 0 rfl (tk_ldc G dX9_pairs_17 wK_X9_66 k)) ?_
    refine s_callVI (As := [.int (-100001)]) G dX9_pairs_19 wY_X9_finding wM_X9_58 wI_X9_finding wS_X9_finding (tk_rm hR (by decide) (by decide)) kX9 k0 (by decide) (c_X9_finding E g16 a0 (-100001) k0) rfl rfl (Nat.le_of_ble_eq_true rfl) ⟨Nat.zero_le _, Nat.zero_le _⟩ (fun x19 => ?_)
    exact s_iret G dX9_pairs_22
  refine s_if_eq (tgt := 16) G dX9_pairs_5 (by decide) (fun q5 => ?_) (fun q5 => ?_)
  ·
    refine s_sub [0] (al' := [(0, .ref (e_ad E a0))]) rfl ?_
    exact hJ16 _
  ·
    refine s_v (fun _ k => tk_aload_n G dX9_pairs_8 0 rfl (tk_iload_n G dX9_pairs_9 2 rfl k)) ?_
    refine s_callVI (As := [.int a2]) G dX9_pairs_10 wY_X9_isTale wM_X9_71 wI_X9_isTale wS_X9_isTale (tk_rm hR (by decide) (by decide)) kX9 k0 (by decide) (c_X9_isTale E x2.2 a0 a2 k0) rfl rfl (Nat.le_of_ble_eq_true rfl) ⟨Nat.zero_le _, Nat.zero_le _⟩ (fun x10 => ?_)
    refine s_if_ne (tgt := 23) G dX9_pairs_13 (by decide) (fun q13 => ?_) (fun q13 => ?_)
    ·
      refine s_sub [0] (al' := [(0, .ref (e_ad E a0))]) rfl ?_
      exact hJ16 _
    ·
      refine s_v (fun _ k => tk_aload_n G dX9_pairs_23 0 rfl (tk_iload_n G dX9_pairs_24 1 rfl (tk_iload_n G dX9_pairs_25 2 rfl k))) ?_
      refine s_callVV (As := [.int a1, .int a2]) G dX9_pairs_26 wY_X9_findPairs wM_X9_175 wI_X9_findPairs wS_X9_findPairs (tk_rm hR (by decide) (by decide)) kX9 k0 (by decide) (c_X9_findPairs E x10.2 a0 a1 a2 k0) rfl rfl (Nat.le_of_ble_eq_true rfl) ⟨Nat.zero_le _, Nat.zero_le _⟩ (fun x26 => ?_)
      refine s_v (fun _ k => tk_iconst G dX9_pairs_29 cI_0 (tk_istore (al' := [(4, .int 0), (0, .ref (e_ad E a0)), (1, .int a1), (2, .int a2), (3, .int a3)]) G dX9_pairs_30 (by decide) rfl (tk_iconst G dX9_pairs_32 cI_0 (tk_istore (al' := [(5, .int 0), (4, .int 0), (0, .ref (e_ad E a0)), (1, .int a1), (2, .int a2), (3, .int a3)]) G dX9_pairs_33 (by decide) rfl k)))) ?_
      refine s_sub [2, 3, 4, 5, 1, 0] (al' := [(0, .ref (e_ad E a0)), (1, .int a1), (2, .int a2), (3, .int a3), (4, .int 0), (5, .int 0)]) rfl ?_
      unfold f_X9_pairs_L35
      refine s_lp2 (al := fun y35_4 y35_5 => [(0, .ref (e_ad E a0)), (1, .int a1), (2, .int a2), (3, .int a3), (4, .int y35_4), (5, .int y35_5)]) (fun kk35 hL35 g35 y35_4 y35_5 => ?_) _ _ _ _
      refine s_v (fun _ k => tk_iload G dX9_pairs_35 5 rfl (tk_bipush G dX9_pairs_37 cB_10 k)) ?_
      refine s_icmp_ge (tgt := 96) G dX9_pairs_39 (by decide) (fun q39 => ?_) (fun q39 => ?_)
      ·
        refine s_v (fun _ k => tk_iload G dX9_pairs_96 4 rfl k) ?_
        exact s_iret G dX9_pairs_98
      ·
        refine s_v (fun _ k => tk_iload G dX9_pairs_42 4 rfl (tk_aload_n G dX9_pairs_44 0 rfl (tk_gr G kX9 dX9_pairs_45 wF_X9_31 k0 gR_9_18 (tk_iload G dX9_pairs_48 5 rfl k)))) ?_
        refine s_iald G dX9_pairs_50 (kF_9_18 k0) (fun v50 => ?_)
        refine s_if_lt (tgt := 86) G dX9_pairs_51 (by decide) (fun q51 => ?_) (fun q51 => ?_)
        ·
          refine s_v (fun _ k => tk_iconst G dX9_pairs_86 cI_0 (tk_iadd G dX9_pairs_87 (tk_istore (al' := [(4, .int (y35_4 + 0)), (0, .ref (e_ad E a0)), (1, .int a1), (2, .int a2), (3, .int a3), (5, .int y35_5)]) G dX9_pairs_88 (by decide) rfl (tk_iinc (al' := [(5, .int (y35_5 + 1)), (4, .int (y35_4 + 0)), (0, .ref (e_ad E a0)), (1, .int a1), (2, .int a2), (3, .int a3)]) G dX9_pairs_90 5 rfl (ci_1 _) (by decide) rfl (tk_goto (tgt := 35) G dX9_pairs_93 (by decide) k))))) ?_
          refine s_sub [2, 3, 4, 5, 1, 0] (al' := [(0, .ref (e_ad E a0)), (1, .int a1), (2, .int a2), (3, .int a3), (4, .int (y35_4 + 0)), (5, .int (y35_5 + 1))]) rfl ?_
          exact hL35 _ _ _
        ·
          refine s_v (fun _ k => tk_iload_n G dX9_pairs_54 3 rfl k) ?_
          have hJ82 : ∀ (g82 : tkH), tkS E X 6 0 0 (tkZi E X) 82 [(0, .ref (e_ad E a0)), (1, .int a1), (2, .int a2), (3, .int a3), (5, .int y35_5)] [.int y35_4] g82 (f_X9_pairs_J82 kk35 y35_4 y35_5 g82) := by
            intro g82
            unfold f_X9_pairs_J82
            refine s_v (fun _ k => tk_iconst G dX9_pairs_82 cI_1 (tk_goto (tgt := 87) G dX9_pairs_83 (by decide) k)) ?_
            refine s_v (fun _ k => tk_iadd G dX9_pairs_87 (tk_istore (al' := [(4, .int (y35_4 + 1)), (0, .ref (e_ad E a0)), (1, .int a1), (2, .int a2), (3, .int a3), (5, .int y35_5)]) G dX9_pairs_88 (by decide) rfl (tk_iinc (al' := [(5, .int (y35_5 + 1)), (4, .int (y35_4 + 1)), (0, .ref (e_ad E a0)), (1, .int a1), (2, .int a2), (3, .int a3)]) G dX9_pairs_90 5 rfl (ci_1 _) (by decide) rfl (tk_goto (tgt := 35) G dX9_pairs_93 (by decide) k)))) ?_
            refine s_sub [2, 3, 4, 5, 1, 0] (al' := [(0, .ref (e_ad E a0)), (1, .int a1), (2, .int a2), (3, .int a3), (4, .int (y35_4 + 1)), (5, .int (y35_5 + 1))]) rfl ?_
            exact hL35 _ _ _
          refine s_if_eq (tgt := 82) G dX9_pairs_55 (by decide) (fun q55 => ?_) (fun q55 => ?_)
          ·
            refine s_sub [0, 1, 2, 3, 5] (al' := [(0, .ref (e_ad E a0)), (1, .int a1), (2, .int a2), (3, .int a3), (5, .int y35_5)]) rfl ?_
            exact hJ82 _
          ·
            refine s_v (fun _ k => tk_aload_n G dX9_pairs_58 0 rfl (tk_iload_n G dX9_pairs_59 1 rfl (tk_iload G dX9_pairs_60 5 rfl (tk_iconst G dX9_pairs_62 cI_0 k)))) ?_
            refine s_callVI (As := [.int a1, .int y35_5, .int 0]) G dX9_pairs_63 wY_X9_stepOf wM_X9_89 wI_X9_stepOf wS_X9_stepOf (tk_rm hR (by decide) (by decide)) kX9 k0 (by decide) (c_X9_stepOf E g35 a0 a1 y35_5 0 k0) rfl rfl (Nat.le_of_ble_eq_true rfl) ⟨Nat.zero_le _, Nat.zero_le _⟩ (fun x63 => ?_)
            refine s_v (fun _ k => tk_aload_n G dX9_pairs_66 0 rfl (tk_iload_n G dX9_pairs_67 2 rfl (tk_aload_n G dX9_pairs_68 0 rfl (tk_gr G kX9 dX9_pairs_69 wF_X9_31 k0 gR_9_18 (tk_iload G dX9_pairs_72 5 rfl k))))) ?_
            refine s_iald G dX9_pairs_74 (kF_9_18 k0) (fun v74 => ?_)
            refine s_v (fun _ k => tk_iconst G dX9_pairs_75 cI_0 k) ?_
            refine s_callVI (As := [.int a2, .int v74, .int 0]) G dX9_pairs_76 wY_X9_stepOf wM_X9_89 wI_X9_stepOf wS_X9_stepOf (tk_rm hR (by decide) (by decide)) kX9 k0 (by decide) (c_X9_stepOf E x63.2 a0 a2 v74 0 k0) rfl rfl (Nat.le_of_ble_eq_true rfl) ⟨Nat.zero_le _, Nat.zero_le _⟩ (fun x76 => ?_)
            refine s_icmp_ne (tgt := 86) G dX9_pairs_79 (by decide) (fun q79 => ?_) (fun q79 => ?_)
            ·
              refine s_sub [0, 1, 2, 3, 5] (al' := [(0, .ref (e_ad E a0)), (1, .int a1), (2, .int a2), (3, .int a3), (5, .int y35_5)]) rfl ?_
              exact hJ82 _
            ·
              refine s_v (fun _ k => tk_iconst G dX9_pairs_86 cI_0 (tk_iadd G dX9_pairs_87 (tk_istore (al' := [(4, .int (y35_4 + 0)), (0, .ref (e_ad E a0)), (1, .int a1), (2, .int a2), (3, .int a3), (5, .int y35_5)]) G dX9_pairs_88 (by decide) rfl (tk_iinc (al' := [(5, .int (y35_5 + 1)), (4, .int (y35_4 + 0)), (0, .ref (e_ad E a0)), (1, .int a1), (2, .int a2), (3, .int a3)]) G dX9_pairs_90 5 rfl (ci_1 _) (by decide) rfl (tk_goto (tgt := 35) G dX9_pairs_93 (by decide) k))))) ?_
              refine s_sub [2, 3, 4, 5, 1, 0] (al' := [(0, .ref (e_ad E a0)), (1, .int a1), (2, .int a2), (3, .int a3), (4, .int (y35_4 + 0)), (5, .int (y35_5 + 1))]) rfl ?_
              exact hL35 _ _ _
theorem c_X9_pairs (E : tkE) (h : tkH) (a0 : Nat) (a1 : Int32) (a2 : Int32) (a3 : Int32) (k0 : kd a0 = 12) : ∀ x, f_X9_pairs h a0 a1 a2 a3 = some x → tkM E yX9_pairs cX9_pairs 6 (some .int) 7 tkF [.ref (e_ad E a0), .int a1, .int a2, .int a3] h (some (.int x.1)) x.2 := fun x hx => tkM_of (by decide) (Nat.le_of_ble_eq_true rfl) (fun _ hR G => w_X9_pairs hR G h a0 a1 a2 a3 k0 x hx)
set_option maxRecDepth 100000 in
set_option maxHeartbeats 4000000 in
theorem w_X9_source {E : tkE} {X : tkX} (hR : x_R X = tkR 7) (G : tkG E X cX9_source 3 RX9 (some .int)) (h : tkH) (a0 : Nat) (a1 : Int32) (k0 : kd a0 = 12) : tkS E X 3 0 0 (tkZi E X) 0 [(0, .ref (e_ad E a0)), (1, .int a1)] [] h (f_X9_source h a0 a1) := by
  unfold f_X9_source
  refine s_v (fun _ k => tk_aload_n G dX9_source_0 0 rfl (tk_iload_n G dX9_source_1 1 rfl k)) ?_
  refine s_callVI (As := [.int a1]) G dX9_source_2 wY_X9_isTale wM_X9_71 wI_X9_isTale wS_X9_isTale (tk_rm hR (by decide) (by decide)) kX9 k0 (by decide) (c_X9_isTale E h a0 a1 k0) rfl rfl (Nat.le_of_ble_eq_true rfl) ⟨Nat.zero_le _, Nat.zero_le _⟩ (fun x2 => ?_)
  refine s_if_ne (tgt := 15) G dX9_source_5 (by decide) (fun q5 => ?_) (fun q5 => ?_)
  ·
    refine s_v (fun _ k => tk_aload_n G dX9_source_8 0 rfl (tk_ldc G dX9_source_9 wK_X9_66 k)) ?_
    refine s_callVI (As := [.int (-100001)]) G dX9_source_11 wY_X9_finding wM_X9_58 wI_X9_finding wS_X9_finding (tk_rm hR (by decide) (by decide)) kX9 k0 (by decide) (c_X9_finding E x2.2 a0 (-100001) k0) rfl rfl (Nat.le_of_ble_eq_true rfl) ⟨Nat.zero_le _, Nat.zero_le _⟩ (fun x11 => ?_)
    exact s_iret G dX9_source_14
  ·
    refine s_v (fun _ k => tk_aload_n G dX9_source_15 0 rfl (tk_iload_n G dX9_source_16 1 rfl k)) ?_
    refine s_callVI (As := [.int a1]) G dX9_source_17 wY_X9_sourceOf wM_X9_202 wI_X9_sourceOf wS_X9_sourceOf (tk_rm hR (by decide) (by decide)) kX9 k0 (by decide) (c_X9_sourceOf E x2.2 a0 a1 k0) rfl rfl (Nat.le_of_ble_eq_true rfl) ⟨Nat.zero_le _, Nat.zero_le _⟩ (fun x17 => ?_)
    refine s_v (fun _ k => tk_istore_n (al' := [(2, .int x17.1), (0, .ref (e_ad E a0)), (1, .int a1)]) G dX9_source_20 (by decide) rfl (tk_iload_n G dX9_source_21 0 rfl k)) ?_
    refine s_if_ge (tgt := 34) G dX9_source_22 (by decide) (fun q22 => ?_) (fun q22 => ?_)
    ·
      refine s_v (fun _ k => tk_iload_n G dX9_source_34 0 rfl k) ?_
      exact s_iret G dX9_source_35
    ·
      refine s_v (fun _ k => tk_aload_n G dX9_source_25 1 rfl (tk_ldc G dX9_source_26 wK_X9_57 k)) ?_
      refine s_callVI (As := [.int (-100006)]) G dX9_source_28 wY_X9_finding wM_X9_58 wI_X9_finding wS_X9_finding (tk_rm hR (by decide) (by decide)) kX9 k0 (by decide) (c_X9_finding E x17.2 a0 (-100006) k0) rfl rfl (Nat.le_of_ble_eq_true rfl) ⟨Nat.zero_le _, Nat.zero_le _⟩ (fun x28 => ?_)
      refine s_v (fun _ k => tk_goto (tgt := 35) G dX9_source_31 (by decide) k) ?_
      exact s_iret G dX9_source_35
theorem c_X9_source (E : tkE) (h : tkH) (a0 : Nat) (a1 : Int32) (k0 : kd a0 = 12) : ∀ x, f_X9_source h a0 a1 = some x → tkM E yX9_source cX9_source 3 (some .int) 7 tkF [.ref (e_ad E a0), .int a1] h (some (.int x.1)) x.2 := fun x hx => tkM_of (by decide) (Nat.le_of_ble_eq_true rfl) (fun _ hR G => w_X9_source hR G h a0 a1 k0 x hx)
set_option maxRecDepth 100000 in
set_option maxHeartbeats 4000000 in
theorem w_X9_tree {E : tkE} {X : tkX} (hR : x_R X = tkR 7) (G : tkG E X cX9_tree 2 RX9 (some .int)) (h : tkH) (a0 : Nat) (a1 : Int32) (k0 : kd a0 = 12) : tkS E X 2 0 0 (tkZi E X) 0 [(0, .ref (e_ad E a0)), (1, .int a1)] [] h (f_X9_tree h a0 a1) := by
  unfold f_X9_tree
  refine s_v (fun _ k => tk_aload_n G dX9_tree_0 0 rfl (tk_iload_n G dX9_tree_1 1 rfl k)) ?_
  refine s_callVI (As := [.int a1]) G dX9_tree_2 wY_X9_noHeap wM_X9_184 wI_X9_noHeap wS_X9_noHeap (tk_rm hR (by decide) (by decide)) kX9 k0 (by decide) (c_X9_noHeap E h a0 a1 k0) rfl rfl (Nat.le_of_ble_eq_true rfl) ⟨Nat.zero_le _, Nat.zero_le _⟩ (fun x2 => ?_)
  refine s_if_eq (tgt := 18) G dX9_tree_5 (by decide) (fun q5 => ?_) (fun q5 => ?_)
  ·
    refine s_v (fun _ k => tk_aload_n G dX9_tree_18 0 rfl (tk_iload_n G dX9_tree_19 1 rfl k)) ?_
    refine s_callVV (As := [.int a1]) G dX9_tree_20 wY_X9_findTree wM_X9_199 wI_X9_findTree wS_X9_findTree (tk_rm hR (by decide) (by decide)) kX9 k0 (by decide) (c_X9_findTree E x2.2 a0 a1 k0) rfl rfl (Nat.le_of_ble_eq_true rfl) ⟨Nat.zero_le _, Nat.zero_le _⟩ (fun x20 => ?_)
    refine s_v (fun _ k => tk_aload_n G dX9_tree_23 0 rfl (tk_gi G kX9 dX9_tree_24 wF_X9_193 k0 gI_9_24 k)) ?_
    exact s_iret G dX9_tree_27
  ·
    refine s_v (fun _ k => tk_aload_n G dX9_tree_8 0 rfl (tk_aload_n G dX9_tree_9 0 rfl (tk_iload_n G dX9_tree_10 1 rfl k))) ?_
    refine s_callVI (As := [.int a1]) G dX9_tree_11 wY_X9_noHeap wM_X9_184 wI_X9_noHeap wS_X9_noHeap (tk_rm hR (by decide) (by decide)) kX9 k0 (by decide) (c_X9_noHeap E x2.2 a0 a1 k0) rfl rfl (Nat.le_of_ble_eq_true rfl) ⟨Nat.zero_le _, Nat.zero_le _⟩ (fun x11 => ?_)
    refine s_callVI (As := [.int x11.1]) G dX9_tree_14 wY_X9_finding wM_X9_58 wI_X9_finding wS_X9_finding (tk_rm hR (by decide) (by decide)) kX9 k0 (by decide) (c_X9_finding E x11.2 a0 x11.1 k0) rfl rfl (Nat.le_of_ble_eq_true rfl) ⟨Nat.zero_le _, Nat.zero_le _⟩ (fun x14 => ?_)
    exact s_iret G dX9_tree_17
theorem c_X9_tree (E : tkE) (h : tkH) (a0 : Nat) (a1 : Int32) (k0 : kd a0 = 12) : ∀ x, f_X9_tree h a0 a1 = some x → tkM E yX9_tree cX9_tree 2 (some .int) 7 tkF [.ref (e_ad E a0), .int a1] h (some (.int x.1)) x.2 := fun x hx => tkM_of (by decide) (Nat.le_of_ble_eq_true rfl) (fun _ hR G => w_X9_tree hR G h a0 a1 k0 x hx)
set_option maxRecDepth 100000 in
set_option maxHeartbeats 4000000 in
theorem w_X9_mould {E : tkE} {X : tkX} (hR : x_R X = tkR 8) (G : tkG E X cX9_mould 2 RX9 (some .int)) (h : tkH) (a0 : Nat) (a1 : Int32) (k0 : kd a0 = 12) : tkS E X 2 0 0 (tkZi E X) 0 [(0, .ref (e_ad E a0)), (1, .int a1)] [] h (f_X9_mould h a0 a1) := by
  unfold f_X9_mould
  refine s_v (fun _ k => tk_aload_n G dX9_mould_0 0 rfl (tk_iload_n G dX9_mould_1 1 rfl k)) ?_
  refine s_callVI (As := [.int a1]) G dX9_mould_2 wY_X9_noHeap wM_X9_184 wI_X9_noHeap wS_X9_noHeap (tk_rm hR (by decide) (by decide)) kX9 k0 (by decide) (c_X9_noHeap E h a0 a1 k0) rfl rfl (Nat.le_of_ble_eq_true rfl) ⟨Nat.zero_le _, Nat.zero_le _⟩ (fun x2 => ?_)
  refine s_if_eq (tgt := 20) G dX9_mould_5 (by decide) (fun q5 => ?_) (fun q5 => ?_)
  ·
    refine s_v (fun _ k => tk_aload_n G dX9_mould_20 0 rfl (tk_iload_n G dX9_mould_21 1 rfl k)) ?_
    refine s_callVI (As := [.int a1]) G dX9_mould_22 wY_X9_mouldOf wM_X9_187 wI_X9_mouldOf wS_X9_mouldOf (tk_rm hR (by decide) (by decide)) kX9 k0 (by decide) (c_X9_mouldOf E x2.2 a0 a1 k0) rfl rfl (Nat.le_of_ble_eq_true rfl) ⟨Nat.zero_le _, Nat.zero_le _⟩ (fun x22 => ?_)
    exact s_iret G dX9_mould_25
  ·
    refine s_v (fun _ k => tk_aload_n G dX9_mould_8 0 rfl (tk_aload_n G dX9_mould_9 0 rfl (tk_iload_n G dX9_mould_10 1 rfl k))) ?_
    refine s_callVI (As := [.int a1]) G dX9_mould_11 wY_X9_noHeap wM_X9_184 wI_X9_noHeap wS_X9_noHeap (tk_rm hR (by decide) (by decide)) kX9 k0 (by decide) (c_X9_noHeap E x2.2 a0 a1 k0) rfl rfl (Nat.le_of_ble_eq_true rfl) ⟨Nat.zero_le _, Nat.zero_le _⟩ (fun x11 => ?_)
    refine s_callVI (As := [.int x11.1]) G dX9_mould_14 wY_X9_finding wM_X9_58 wI_X9_finding wS_X9_finding (tk_rm hR (by decide) (by decide)) kX9 k0 (by decide) (c_X9_finding E x11.2 a0 x11.1 k0) rfl rfl (Nat.le_of_ble_eq_true rfl) ⟨Nat.zero_le _, Nat.zero_le _⟩ (fun x14 => ?_)
    refine s_v (fun _ k => tk_goto (tgt := 25) G dX9_mould_17 (by decide) k) ?_
    exact s_iret G dX9_mould_25
theorem c_X9_mould (E : tkE) (h : tkH) (a0 : Nat) (a1 : Int32) (k0 : kd a0 = 12) : ∀ x, f_X9_mould h a0 a1 = some x → tkM E yX9_mould cX9_mould 2 (some .int) 8 tkF [.ref (e_ad E a0), .int a1] h (some (.int x.1)) x.2 := fun x hx => tkM_of (by decide) (Nat.le_of_ble_eq_true rfl) (fun _ hR G => w_X9_mould hR G h a0 a1 k0 x hx)
set_option maxRecDepth 100000 in
set_option maxHeartbeats 4000000 in
theorem w_X9_spread {E : tkE} {X : tkX} (hR : x_R X = tkR 8) (G : tkG E X cX9_spread 3 RX9 (some .int)) (h : tkH) (a0 : Nat) (a1 : Int32) (k0 : kd a0 = 12) : tkS E X 3 0 0 (tkZi E X) 0 [(0, .ref (e_ad E a0)), (1, .int a1)] [] h (f_X9_spread h a0 a1) := by
  unfold f_X9_spread
  refine s_v (fun _ k => tk_aload_n G dX9_spread_0 0 rfl (tk_iload_n G dX9_spread_1 1 rfl k)) ?_
  refine s_callVI (As := [.int a1]) G dX9_spread_2 wY_X9_noHeap wM_X9_184 wI_X9_noHeap wS_X9_noHeap (tk_rm hR (by decide) (by decide)) kX9 k0 (by decide) (c_X9_noHeap E h a0 a1 k0) rfl rfl (Nat.le_of_ble_eq_true rfl) ⟨Nat.zero_le _, Nat.zero_le _⟩ (fun x2 => ?_)
  refine s_if_eq (tgt := 18) G dX9_spread_5 (by decide) (fun q5 => ?_) (fun q5 => ?_)
  ·
    refine s_v (fun _ k => tk_aload_n G dX9_spread_18 0 rfl (tk_iload_n G dX9_spread_19 1 rfl k)) ?_
    refine s_callVI (As := [.int a1]) G dX9_spread_20 wY_X9_mouldOf wM_X9_187 wI_X9_mouldOf wS_X9_mouldOf (tk_rm hR (by decide) (by decide)) kX9 k0 (by decide) (c_X9_mouldOf E x2.2 a0 a1 k0) rfl rfl (Nat.le_of_ble_eq_true rfl) ⟨Nat.zero_le _, Nat.zero_le _⟩ (fun x20 => ?_)
    refine s_v (fun _ k => tk_istore_n (al' := [(2, .int x20.1), (0, .ref (e_ad E a0)), (1, .int a1)]) G dX9_spread_23 (by decide) rfl (tk_aload_n G dX9_spread_24 1 rfl (tk_gi G kX9 dX9_spread_25 wF_X9_178 k0 gI_9_19 k))) ?_
    exact s_iret G dX9_spread_28
  ·
    refine s_v (fun _ k => tk_aload_n G dX9_spread_8 0 rfl (tk_aload_n G dX9_spread_9 0 rfl (tk_iload_n G dX9_spread_10 1 rfl k))) ?_
    refine s_callVI (As := [.int a1]) G dX9_spread_11 wY_X9_noHeap wM_X9_184 wI_X9_noHeap wS_X9_noHeap (tk_rm hR (by decide) (by decide)) kX9 k0 (by decide) (c_X9_noHeap E x2.2 a0 a1 k0) rfl rfl (Nat.le_of_ble_eq_true rfl) ⟨Nat.zero_le _, Nat.zero_le _⟩ (fun x11 => ?_)
    refine s_callVI (As := [.int x11.1]) G dX9_spread_14 wY_X9_finding wM_X9_58 wI_X9_finding wS_X9_finding (tk_rm hR (by decide) (by decide)) kX9 k0 (by decide) (c_X9_finding E x11.2 a0 x11.1 k0) rfl rfl (Nat.le_of_ble_eq_true rfl) ⟨Nat.zero_le _, Nat.zero_le _⟩ (fun x14 => ?_)
    exact s_iret G dX9_spread_17
theorem c_X9_spread (E : tkE) (h : tkH) (a0 : Nat) (a1 : Int32) (k0 : kd a0 = 12) : ∀ x, f_X9_spread h a0 a1 = some x → tkM E yX9_spread cX9_spread 3 (some .int) 8 tkF [.ref (e_ad E a0), .int a1] h (some (.int x.1)) x.2 := fun x hx => tkM_of (by decide) (Nat.le_of_ble_eq_true rfl) (fun _ hR G => w_X9_spread hR G h a0 a1 k0 x hx)
