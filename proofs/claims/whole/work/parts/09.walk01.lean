set_option maxRecDepth 100000 in
set_option maxHeartbeats 4000000 in
theorem w_J6_bitCount_0f7a4 {E : tkE} {X : tkX} (hR : x_R X = tkR 0) (G : tkG E X cJ6_bitCount_0f7a4 1 RJ6 (some .int)) (h : tkH) (a0 : Int32)  : tkS E X 1 0 0 (tkZi E X) 0 [(0, .int a0)] [] h (f_J6_bitCount_0f7a4 h a0) := by
  unfold f_J6_bitCount_0f7a4
  refine s_v (fun _ k => tk_iload_n G dJ6_bitCount_0f7a4_0 0 rfl (tk_iload_n G dJ6_bitCount_0f7a4_1 0 rfl (tk_iconst G dJ6_bitCount_0f7a4_2 cI_1 (tk_iushr G dJ6_bitCount_0f7a4_3 (tk_ldcw G dJ6_bitCount_0f7a4_4 wK_J6_265 (tk_iand G dJ6_bitCount_0f7a4_7 (tk_isub G dJ6_bitCount_0f7a4_8 (tk_istore_n (al' := [(0, .int (a0 - (((Int32.toUInt32 a0 >>> (Int32.toUInt32 1 &&& Int32.toUInt32 31)).toInt32) &&& 1431655765)))]) G dJ6_bitCount_0f7a4_9 (by decide) rfl (tk_iload_n G dJ6_bitCount_0f7a4_10 0 rfl (tk_ldcw G dJ6_bitCount_0f7a4_11 wK_J6_266 (tk_iand G dJ6_bitCount_0f7a4_14 (tk_iload_n G dJ6_bitCount_0f7a4_15 0 rfl (tk_iconst G dJ6_bitCount_0f7a4_16 cI_2 (tk_iushr G dJ6_bitCount_0f7a4_17 (tk_ldcw G dJ6_bitCount_0f7a4_18 wK_J6_266 (tk_iand G dJ6_bitCount_0f7a4_21 (tk_iadd G dJ6_bitCount_0f7a4_22 (tk_istore_n (al' := [(0, .int (((a0 - (((Int32.toUInt32 a0 >>> (Int32.toUInt32 1 &&& Int32.toUInt32 31)).toInt32) &&& 1431655765)) &&& 858993459) + (((Int32.toUInt32 (a0 - (((Int32.toUInt32 a0 >>> (Int32.toUInt32 1 &&& Int32.toUInt32 31)).toInt32) &&& 1431655765)) >>> (Int32.toUInt32 2 &&& Int32.toUInt32 31)).toInt32) &&& 858993459)))]) G dJ6_bitCount_0f7a4_23 (by decide) rfl (tk_iload_n G dJ6_bitCount_0f7a4_24 0 rfl (tk_iload_n G dJ6_bitCount_0f7a4_25 0 rfl (tk_iconst G dJ6_bitCount_0f7a4_26 cI_4 (tk_iushr G dJ6_bitCount_0f7a4_27 (tk_iadd G dJ6_bitCount_0f7a4_28 (tk_ldcw G dJ6_bitCount_0f7a4_29 wK_J6_267 (tk_iand G dJ6_bitCount_0f7a4_32 (tk_istore_n (al' := [(0, .int (((((a0 - (((Int32.toUInt32 a0 >>> (Int32.toUInt32 1 &&& Int32.toUInt32 31)).toInt32) &&& 1431655765)) &&& 858993459) + (((Int32.toUInt32 (a0 - (((Int32.toUInt32 a0 >>> (Int32.toUInt32 1 &&& Int32.toUInt32 31)).toInt32) &&& 1431655765)) >>> (Int32.toUInt32 2 &&& Int32.toUInt32 31)).toInt32) &&& 858993459)) + ((Int32.toUInt32 (((a0 - (((Int32.toUInt32 a0 >>> (Int32.toUInt32 1 &&& Int32.toUInt32 31)).toInt32) &&& 1431655765)) &&& 858993459) + (((Int32.toUInt32 (a0 - (((Int32.toUInt32 a0 >>> (Int32.toUInt32 1 &&& Int32.toUInt32 31)).toInt32) &&& 1431655765)) >>> (Int32.toUInt32 2 &&& Int32.toUInt32 31)).toInt32) &&& 858993459)) >>> (Int32.toUInt32 4 &&& Int32.toUInt32 31)).toInt32)) &&& 252645135))]) G dJ6_bitCount_0f7a4_33 (by decide) rfl (tk_iload_n G dJ6_bitCount_0f7a4_34 0 rfl (tk_iload_n G dJ6_bitCount_0f7a4_35 0 rfl (tk_bipush G dJ6_bitCount_0f7a4_36 cB_8 (tk_iushr G dJ6_bitCount_0f7a4_38 (tk_iadd G dJ6_bitCount_0f7a4_39 (tk_istore_n (al' := [(0, .int ((((((a0 - (((Int32.toUInt32 a0 >>> (Int32.toUInt32 1 &&& Int32.toUInt32 31)).toInt32) &&& 1431655765)) &&& 858993459) + (((Int32.toUInt32 (a0 - (((Int32.toUInt32 a0 >>> (Int32.toUInt32 1 &&& Int32.toUInt32 31)).toInt32) &&& 1431655765)) >>> (Int32.toUInt32 2 &&& Int32.toUInt32 31)).toInt32) &&& 858993459)) + ((Int32.toUInt32 (((a0 - (((Int32.toUInt32 a0 >>> (Int32.toUInt32 1 &&& Int32.toUInt32 31)).toInt32) &&& 1431655765)) &&& 858993459) + (((Int32.toUInt32 (a0 - (((Int32.toUInt32 a0 >>> (Int32.toUInt32 1 &&& Int32.toUInt32 31)).toInt32) &&& 1431655765)) >>> (Int32.toUInt32 2 &&& Int32.toUInt32 31)).toInt32) &&& 858993459)) >>> (Int32.toUInt32 4 &&& Int32.toUInt32 31)).toInt32)) &&& 252645135) + ((Int32.toUInt32 (((((a0 - (((Int32.toUInt32 a0 >>> (Int32.toUInt32 1 &&& Int32.toUInt32 31)).toInt32) &&& 1431655765)) &&& 858993459) + (((Int32.toUInt32 (a0 - (((Int32.toUInt32 a0 >>> (Int32.toUInt32 1 &&& Int32.toUInt32 31)).toInt32) &&& 1431655765)) >>> (Int32.toUInt32 2 &&& Int32.toUInt32 31)).toInt32) &&& 858993459)) + ((Int32.toUInt32 (((a0 - (((Int32.toUInt32 a0 >>> (Int32.toUInt32 1 &&& Int32.toUInt32 31)).toInt32) &&& 1431655765)) &&& 858993459) + (((Int32.toUInt32 (a0 - (((Int32.toUInt32 a0 >>> (Int32.toUInt32 1 &&& Int32.toUInt32 31)).toInt32) &&& 1431655765)) >>> (Int32.toUInt32 2 &&& Int32.toUInt32 31)).toInt32) &&& 858993459)) >>> (Int32.toUInt32 4 &&& Int32.toUInt32 31)).toInt32)) &&& 252645135) >>> (Int32.toUInt32 8 &&& Int32.toUInt32 31)).toInt32)))]) G dJ6_bitCount_0f7a4_40 (by decide) rfl (tk_iload_n G dJ6_bitCount_0f7a4_41 0 rfl (tk_iload_n G dJ6_bitCount_0f7a4_42 0 rfl (tk_bipush G dJ6_bitCount_0f7a4_43 cB_16 (tk_iushr G dJ6_bitCount_0f7a4_45 (tk_iadd G dJ6_bitCount_0f7a4_46 (tk_istore_n (al' := [(0, .int (((((((a0 - (((Int32.toUInt32 a0 >>> (Int32.toUInt32 1 &&& Int32.toUInt32 31)).toInt32) &&& 1431655765)) &&& 858993459) + (((Int32.toUInt32 (a0 - (((Int32.toUInt32 a0 >>> (Int32.toUInt32 1 &&& Int32.toUInt32 31)).toInt32) &&& 1431655765)) >>> (Int32.toUInt32 2 &&& Int32.toUInt32 31)).toInt32) &&& 858993459)) + ((Int32.toUInt32 (((a0 - (((Int32.toUInt32 a0 >>> (Int32.toUInt32 1 &&& Int32.toUInt32 31)).toInt32) &&& 1431655765)) &&& 858993459) + (((Int32.toUInt32 (a0 - (((Int32.toUInt32 a0 >>> (Int32.toUInt32 1 &&& Int32.toUInt32 31)).toInt32) &&& 1431655765)) >>> (Int32.toUInt32 2 &&& Int32.toUInt32 31)).toInt32) &&& 858993459)) >>> (Int32.toUInt32 4 &&& Int32.toUInt32 31)).toInt32)) &&& 252645135) + ((Int32.toUInt32 (((((a0 - (((Int32.toUInt32 a0 >>> (Int32.toUInt32 1 &&& Int32.toUInt32 31)).toInt32) &&& 1431655765)) &&& 858993459) + (((Int32.toUInt32 (a0 - (((Int32.toUInt32 a0 >>> (Int32.toUInt32 1 &&& Int32.toUInt32 31)).toInt32) &&& 1431655765)) >>> (Int32.toUInt32 2 &&& Int32.toUInt32 31)).toInt32) &&& 858993459)) + ((Int32.toUInt32 (((a0 - (((Int32.toUInt32 a0 >>> (Int32.toUInt32 1 &&& Int32.toUInt32 31)).toInt32) &&& 1431655765)) &&& 858993459) + (((Int32.toUInt32 (a0 - (((Int32.toUInt32 a0 >>> (Int32.toUInt32 1 &&& Int32.toUInt32 31)).toInt32) &&& 1431655765)) >>> (Int32.toUInt32 2 &&& Int32.toUInt32 31)).toInt32) &&& 858993459)) >>> (Int32.toUInt32 4 &&& Int32.toUInt32 31)).toInt32)) &&& 252645135) >>> (Int32.toUInt32 8 &&& Int32.toUInt32 31)).toInt32)) + ((Int32.toUInt32 ((((((a0 - (((Int32.toUInt32 a0 >>> (Int32.toUInt32 1 &&& Int32.toUInt32 31)).toInt32) &&& 1431655765)) &&& 858993459) + (((Int32.toUInt32 (a0 - (((Int32.toUInt32 a0 >>> (Int32.toUInt32 1 &&& Int32.toUInt32 31)).toInt32) &&& 1431655765)) >>> (Int32.toUInt32 2 &&& Int32.toUInt32 31)).toInt32) &&& 858993459)) + ((Int32.toUInt32 (((a0 - (((Int32.toUInt32 a0 >>> (Int32.toUInt32 1 &&& Int32.toUInt32 31)).toInt32) &&& 1431655765)) &&& 858993459) + (((Int32.toUInt32 (a0 - (((Int32.toUInt32 a0 >>> (Int32.toUInt32 1 &&& Int32.toUInt32 31)).toInt32) &&& 1431655765)) >>> (Int32.toUInt32 2 &&& Int32.toUInt32 31)).toInt32) &&& 858993459)) >>> (Int32.toUInt32 4 &&& Int32.toUInt32 31)).toInt32)) &&& 252645135) + ((Int32.toUInt32 (((((a0 - (((Int32.toUInt32 a0 >>> (Int32.toUInt32 1 &&& Int32.toUInt32 31)).toInt32) &&& 1431655765)) &&& 858993459) + (((Int32.toUInt32 (a0 - (((Int32.toUInt32 a0 >>> (Int32.toUInt32 1 &&& Int32.toUInt32 31)).toInt32) &&& 1431655765)) >>> (Int32.toUInt32 2 &&& Int32.toUInt32 31)).toInt32) &&& 858993459)) + ((Int32.toUInt32 (((a0 - (((Int32.toUInt32 a0 >>> (Int32.toUInt32 1 &&& Int32.toUInt32 31)).toInt32) &&& 1431655765)) &&& 858993459) + (((Int32.toUInt32 (a0 - (((Int32.toUInt32 a0 >>> (Int32.toUInt32 1 &&& Int32.toUInt32 31)).toInt32) &&& 1431655765)) >>> (Int32.toUInt32 2 &&& Int32.toUInt32 31)).toInt32) &&& 858993459)) >>> (Int32.toUInt32 4 &&& Int32.toUInt32 31)).toInt32)) &&& 252645135) >>> (Int32.toUInt32 8 &&& Int32.toUInt32 31)).toInt32)) >>> (Int32.toUInt32 16 &&& Int32.toUInt32 31)).toInt32)))]) G dJ6_bitCount_0f7a4_47 (by decide) rfl (tk_iload_n G dJ6_bitCount_0f7a4_48 0 rfl (tk_bipush G dJ6_bitCount_0f7a4_49 cB_63 (tk_iand G dJ6_bitCount_0f7a4_51 k))))))))))))))))))))))))))))))))))))))))) ?_
  exact s_iret G dJ6_bitCount_0f7a4_52
theorem c_J6_bitCount_0f7a4 (E : tkE) (h : tkH) (a0 : Int32)  : ∀ x, f_J6_bitCount_0f7a4 h a0 = some x → tkM E yJ6_bitCount_0f7a4 cJ6_bitCount_0f7a4 1 (some .int) 0 tkF [.int a0] h (some (.int x.1)) x.2 := fun x hx => tkM_of (by decide) (Nat.le_of_ble_eq_true rfl) (fun _ hR G => w_J6_bitCount_0f7a4 hR G h a0  x hx)
set_option maxRecDepth 100000 in
set_option maxHeartbeats 4000000 in
theorem w_J7_fill_53178 {E : tkE} {X : tkX} (hR : x_R X = tkR 0) (G : tkG E X cJ7_fill_53178 4 RJ7 none) (h : tkH) (a0 : Nat) (a1 : Int32) (k0 : kd a0 = 0) : tkS E X 4 0 0 (tkZv E X) 0 [(0, .ref (e_ad E a0)), (1, .int a1)] [] h (f_J7_fill_53178 h a0 a1) := by
  unfold f_J7_fill_53178
  refine s_v (fun _ k => tk_iconst G dJ7_fill_53178_0 cI_0 (tk_istore_n (al' := [(2, .int 0), (0, .ref (e_ad E a0)), (1, .int a1)]) G dJ7_fill_53178_1 (by decide) rfl (tk_aload_n G dJ7_fill_53178_2 1 rfl k))) ?_
  refine s_alen G dJ7_fill_53178_3 k0 ?_
  refine s_v (fun _ k => tk_istore_n (al' := [(3, .int (nI (ln a0))), (2, .int 0), (0, .ref (e_ad E a0)), (1, .int a1)]) G dJ7_fill_53178_4 (by decide) rfl k) ?_
  refine s_sub [2, 3, 1, 0] (al' := [(0, .ref (e_ad E a0)), (1, .int a1), (2, .int 0), (3, .int (nI (ln a0)))]) rfl ?_
  unfold f_J7_fill_53178_L5
  refine s_lp1 (al := fun y5_2 => [(0, .ref (e_ad E a0)), (1, .int a1), (2, .int y5_2), (3, .int (nI (ln a0)))]) (fun kk5 hL5 g5 y5_2 => ?_) _ _ _
  refine s_v (fun _ k => tk_iload_n G dJ7_fill_53178_5 2 rfl (tk_iload_n G dJ7_fill_53178_6 3 rfl k)) ?_
  refine s_icmp_ge (tgt := 20) G dJ7_fill_53178_7 (by decide) (fun q7 => ?_) (fun q7 => ?_)
  ·
    exact s_vret G dJ7_fill_53178_20
  ·
    refine s_v (fun _ k => tk_aload_n G dJ7_fill_53178_10 0 rfl (tk_iload_n G dJ7_fill_53178_11 2 rfl (tk_iload_n G dJ7_fill_53178_12 1 rfl k))) ?_
    refine s_iast G dJ7_fill_53178_13 k0 (fun h13 => ?_)
    refine s_v (fun _ k => tk_iinc (al' := [(2, .int (y5_2 + 1)), (0, .ref (e_ad E a0)), (1, .int a1), (3, .int (nI (ln a0)))]) G dJ7_fill_53178_14 2 rfl (ci_1 _) (by decide) rfl (tk_goto (tgt := 5) G dJ7_fill_53178_17 (by decide) k)) ?_
    refine s_sub [1, 2, 0, 3] (al' := [(0, .ref (e_ad E a0)), (1, .int a1), (2, .int (y5_2 + 1)), (3, .int (nI (ln a0)))]) rfl ?_
    exact hL5 _ _
theorem c_J7_fill_53178 (E : tkE) (h : tkH) (a0 : Nat) (a1 : Int32) (k0 : kd a0 = 0) : ∀ x, f_J7_fill_53178 h a0 a1 = some x → tkM E yJ7_fill_53178 cJ7_fill_53178 4 none 0 tkF [.ref (e_ad E a0), .int a1] h none x := fun x hx => tkM_of (by decide) (Nat.le_of_ble_eq_true rfl) (fun _ hR G => w_J7_fill_53178 hR G h a0 a1 k0 x hx)
set_option maxRecDepth 100000 in
set_option maxHeartbeats 4000000 in
theorem w_X0_addStep {E : tkE} {X : tkX} (hR : x_R X = tkR 0) (G : tkG E X cX0_addStep 3 RX0 none) (h : tkH) (a0 : Nat) (a1 : Int32) (a2 : Int32) (k0 : kd a0 = 3) : tkS E X 3 0 0 (tkZv E X) 0 [(0, .ref (e_ad E a0)), (1, .int a1), (2, .int a2)] [] h (f_X0_addStep h a0 a1 a2) := by
  unfold f_X0_addStep
  refine s_v (fun _ k => tk_aload_n G dX0_addStep_0 0 rfl (tk_gr G kX0 dX0_addStep_1 wF_X0_27 k0 gR_0_6 (tk_iload_n G dX0_addStep_4 1 rfl (tk_bipush G dX0_addStep_5 cB_10 (tk_imul G dX0_addStep_7 (tk_aload_n G dX0_addStep_8 0 rfl (tk_gr G kX0 dX0_addStep_9 wF_X0_24 k0 gR_0_5 (tk_iload_n G dX0_addStep_12 1 rfl k)))))))) ?_
  refine s_iald G dX0_addStep_13 (kF_0_5 k0) (fun v13 => ?_)
  refine s_v (fun _ k => tk_iadd G dX0_addStep_14 (tk_iload_n G dX0_addStep_15 2 rfl k)) ?_
  refine s_iast G dX0_addStep_16 (kF_0_6 k0) (fun h16 => ?_)
  refine s_v (fun _ k => tk_aload_n G dX0_addStep_17 0 rfl (tk_gr G kX0 dX0_addStep_18 wF_X0_24 k0 gR_0_5 (tk_iload_n G dX0_addStep_21 1 rfl (tk_dup2 G dX0_addStep_22 rfl rfl k)))) ?_
  refine s_iald G dX0_addStep_23 (kF_0_5 k0) (fun v23 => ?_)
  refine s_v (fun _ k => tk_iconst G dX0_addStep_24 cI_1 (tk_iadd G dX0_addStep_25 k)) ?_
  refine s_iast G dX0_addStep_26 (kF_0_5 k0) (fun h26 => ?_)
  exact s_vret G dX0_addStep_27
theorem c_X0_addStep (E : tkE) (h : tkH) (a0 : Nat) (a1 : Int32) (a2 : Int32) (k0 : kd a0 = 3) : ∀ x, f_X0_addStep h a0 a1 a2 = some x → tkM E yX0_addStep cX0_addStep 3 none 0 tkF [.ref (e_ad E a0), .int a1, .int a2] h none x := fun x hx => tkM_of (by decide) (Nat.le_of_ble_eq_true rfl) (fun _ hR G => w_X0_addStep hR G h a0 a1 a2 k0 x hx)
set_option maxRecDepth 100000 in
set_option maxHeartbeats 4000000 in
theorem w_X0_addTale {E : tkE} {X : tkX} (hR : x_R X = tkR 0) (G : tkG E X cX0_addTale 5 RX0 (some .int)) (h : tkH) (a0 : Nat) (a1 : Int32) (a2 : Int32) (a3 : Int32) (k0 : kd a0 = 3) : tkS E X 5 0 0 (tkZi E X) 0 [(0, .ref (e_ad E a0)), (1, .int a1), (2, .int a2), (3, .int a3)] [] h (f_X0_addTale h a0 a1 a2 a3) := by
  unfold f_X0_addTale
  refine s_v (fun _ k => tk_aload_n G dX0_addTale_0 0 rfl (tk_gi G kX0 dX0_addTale_1 wF_X0_36 k0 gI_0_0 (tk_istore (al' := [(4, .int (h a0 0)), (0, .ref (e_ad E a0)), (1, .int a1), (2, .int a2), (3, .int a3)]) G dX0_addTale_4 (by decide) rfl (tk_aload_n G dX0_addTale_6 1 rfl (tk_gr G kX0 dX0_addTale_7 wF_X0_9 k0 gR_0_1 (tk_iload G dX0_addTale_10 0 rfl (tk_iload_n G dX0_addTale_12 2 rfl k))))))) ?_
  refine s_iast G dX0_addTale_13 (kF_0_1 k0) (fun h13 => ?_)
  refine s_v (fun _ k => tk_aload_n G dX0_addTale_14 1 rfl (tk_gr G kX0 dX0_addTale_15 wF_X0_15 k0 gR_0_2 (tk_iload G dX0_addTale_18 0 rfl (tk_iload_n G dX0_addTale_20 3 rfl k)))) ?_
  refine s_iast G dX0_addTale_21 (kF_0_2 k0) (fun h21 => ?_)
  refine s_v (fun _ k => tk_aload_n G dX0_addTale_22 1 rfl (tk_gr G kX0 dX0_addTale_23 wF_X0_18 k0 gR_0_3 (tk_iload G dX0_addTale_26 0 rfl (tk_iload_n G dX0_addTale_28 4 rfl k)))) ?_
  refine s_iast G dX0_addTale_29 (kF_0_3 k0) (fun h29 => ?_)
  refine s_v (fun _ k => tk_aload_n G dX0_addTale_30 1 rfl (tk_gr G kX0 dX0_addTale_31 wF_X0_21 k0 gR_0_4 (tk_iload G dX0_addTale_34 0 rfl (tk_iconst G dX0_addTale_36 cI_m1 k)))) ?_
  refine s_iast G dX0_addTale_37 (kF_0_4 k0) (fun h37 => ?_)
  refine s_v (fun _ k => tk_aload_n G dX0_addTale_38 1 rfl (tk_gr G kX0 dX0_addTale_39 wF_X0_24 k0 gR_0_5 (tk_iload G dX0_addTale_42 0 rfl (tk_iconst G dX0_addTale_44 cI_0 k)))) ?_
  refine s_iast G dX0_addTale_45 (kF_0_5 k0) (fun h45 => ?_)
  refine s_v (fun _ k => tk_aload_n G dX0_addTale_46 1 rfl (tk_dup G dX0_addTale_47 rfl (tk_gi G kX0 dX0_addTale_48 wF_X0_36 k0 gI_0_0 (tk_iconst G dX0_addTale_51 cI_1 (tk_iadd G dX0_addTale_52 (tk_pi G kX0 dX0_addTale_53 wF_X0_36 k0 gP_0_0 (tk_iload G dX0_addTale_56 0 rfl k))))))) ?_
  exact s_iret G dX0_addTale_58
theorem c_X0_addTale (E : tkE) (h : tkH) (a0 : Nat) (a1 : Int32) (a2 : Int32) (a3 : Int32) (k0 : kd a0 = 3) : ∀ x, f_X0_addTale h a0 a1 a2 a3 = some x → tkM E yX0_addTale cX0_addTale 5 (some .int) 0 tkF [.ref (e_ad E a0), .int a1, .int a2, .int a3] h (some (.int x.1)) x.2 := fun x hx => tkM_of (by decide) (Nat.le_of_ble_eq_true rfl) (fun _ hR G => w_X0_addTale hR G h a0 a1 a2 a3 k0 x hx)
set_option maxRecDepth 100000 in
set_option maxHeartbeats 4000000 in
theorem w_X0_howManySteps {E : tkE} {X : tkX} (hR : x_R X = tkR 0) (G : tkG E X cX0_howManySteps 3 RX0 (some .int)) (h : tkH) (a0 : Nat) (k0 : kd a0 = 3) : tkS E X 3 0 0 (tkZi E X) 0 [(0, .ref (e_ad E a0))] [] h (f_X0_howManySteps h a0) := by
  unfold f_X0_howManySteps
  refine s_v (fun _ k => tk_iconst G dX0_howManySteps_0 cI_0 (tk_istore_n (al' := [(1, .int 0), (0, .ref (e_ad E a0))]) G dX0_howManySteps_1 (by decide) rfl (tk_iconst G dX0_howManySteps_2 cI_0 (tk_istore_n (al' := [(2, .int 0), (1, .int 0), (0, .ref (e_ad E a0))]) G dX0_howManySteps_3 (by decide) rfl k)))) ?_
  refine s_sub [2, 1, 0] (al' := [(0, .ref (e_ad E a0)), (1, .int 0), (2, .int 0)]) rfl ?_
  unfold f_X0_howManySteps_L4
  refine s_lp2 (al := fun y4_1 y4_2 => [(0, .ref (e_ad E a0)), (1, .int y4_1), (2, .int y4_2)]) (fun kk4 hL4 g4 y4_1 y4_2 => ?_) _ _ _ _
  refine s_v (fun _ k => tk_iload_n G dX0_howManySteps_4 2 rfl (tk_aload_n G dX0_howManySteps_5 0 rfl (tk_gi G kX0 dX0_howManySteps_6 wF_X0_36 k0 gI_0_0 k))) ?_
  refine s_icmp_ge (tgt := 27) G dX0_howManySteps_9 (by decide) (fun q9 => ?_) (fun q9 => ?_)
  ·
    refine s_v (fun _ k => tk_iload_n G dX0_howManySteps_27 1 rfl k) ?_
    exact s_iret G dX0_howManySteps_28
  ·
    refine s_v (fun _ k => tk_iload_n G dX0_howManySteps_12 1 rfl (tk_aload_n G dX0_howManySteps_13 0 rfl (tk_gr G kX0 dX0_howManySteps_14 wF_X0_24 k0 gR_0_5 (tk_iload_n G dX0_howManySteps_17 2 rfl k)))) ?_
    refine s_iald G dX0_howManySteps_18 (kF_0_5 k0) (fun v18 => ?_)
    refine s_v (fun _ k => tk_iadd G dX0_howManySteps_19 (tk_istore_n (al' := [(1, .int (y4_1 + v18)), (0, .ref (e_ad E a0)), (2, .int y4_2)]) G dX0_howManySteps_20 (by decide) rfl (tk_iinc (al' := [(2, .int (y4_2 + 1)), (1, .int (y4_1 + v18)), (0, .ref (e_ad E a0))]) G dX0_howManySteps_21 2 rfl (ci_1 _) (by decide) rfl (tk_goto (tgt := 4) G dX0_howManySteps_24 (by decide) k)))) ?_
    refine s_sub [2, 1, 0] (al' := [(0, .ref (e_ad E a0)), (1, .int (y4_1 + v18)), (2, .int (y4_2 + 1))]) rfl ?_
    exact hL4 _ _ _
theorem c_X0_howManySteps (E : tkE) (h : tkH) (a0 : Nat) (k0 : kd a0 = 3) : ∀ x, f_X0_howManySteps h a0 = some x → tkM E yX0_howManySteps cX0_howManySteps 3 (some .int) 0 tkF [.ref (e_ad E a0)] h (some (.int x.1)) x.2 := fun x hx => tkM_of (by decide) (Nat.le_of_ble_eq_true rfl) (fun _ hR G => w_X0_howManySteps hR G h a0 k0 x hx)
set_option maxRecDepth 100000 in
set_option maxHeartbeats 4000000 in
theorem w_X0_isAt {E : tkE} {X : tkX} (hR : x_R X = tkR 0) (G : tkG E X cX0_isAt 3 RX0 (some .boolean)) (h : tkH) (a0 : Nat) (a1 : Int32) (a2 : Int32) (k0 : kd a0 = 3) : tkS E X 3 0 0 (tkZi E X) 0 [(0, .ref (e_ad E a0)), (1, .int a1), (2, .int a2)] [] h (f_X0_isAt h a0 a1 a2) := by
  unfold f_X0_isAt
  refine s_v (fun _ k => tk_iload_n G dX0_isAt_0 2 rfl (tk_iconst G dX0_isAt_1 cI_m1 k)) ?_
  refine s_icmp_eq (tgt := 15) G dX0_isAt_2 (by decide) (fun q2 => ?_) (fun q2 => ?_)
  ·
    refine s_v (fun _ k => tk_iconst G dX0_isAt_15 cI_1 (tk_goto (tgt := 20) G dX0_isAt_16 (by decide) k)) ?_
    exact s_zret G dX0_isAt_20 (by decide)
  ·
    refine s_v (fun _ k => tk_aload_n G dX0_isAt_5 0 rfl (tk_gr G kX0 dX0_isAt_6 wF_X0_15 k0 gR_0_2 (tk_iload_n G dX0_isAt_9 1 rfl k))) ?_
    refine s_iald G dX0_isAt_10 (kF_0_2 k0) (fun v10 => ?_)
    refine s_v (fun _ k => tk_iload_n G dX0_isAt_11 2 rfl k) ?_
    refine s_icmp_ne (tgt := 19) G dX0_isAt_12 (by decide) (fun q12 => ?_) (fun q12 => ?_)
    ·
      refine s_v (fun _ k => tk_iconst G dX0_isAt_15 cI_1 (tk_goto (tgt := 20) G dX0_isAt_16 (by decide) k)) ?_
      exact s_zret G dX0_isAt_20 (by decide)
    ·
      refine s_v (fun _ k => tk_iconst G dX0_isAt_19 cI_0 k) ?_
      exact s_zret G dX0_isAt_20 (by decide)
theorem c_X0_isAt (E : tkE) (h : tkH) (a0 : Nat) (a1 : Int32) (a2 : Int32) (k0 : kd a0 = 3) : ∀ x, f_X0_isAt h a0 a1 a2 = some x → tkM E yX0_isAt cX0_isAt 3 (some .boolean) 0 tkF [.ref (e_ad E a0), .int a1, .int a2] h (some (.int x.1)) x.2 := fun x hx => tkM_of (by decide) (Nat.le_of_ble_eq_true rfl) (fun _ hR G => w_X0_isAt hR G h a0 a1 a2 k0 x hx)
set_option maxRecDepth 100000 in
set_option maxHeartbeats 4000000 in
theorem w_X0_isFramed {E : tkE} {X : tkX} (hR : x_R X = tkR 0) (G : tkG E X cX0_isFramed 2 RX0 (some .boolean)) (h : tkH) (a0 : Nat) (a1 : Int32) (k0 : kd a0 = 3) : tkS E X 2 0 0 (tkZi E X) 0 [(0, .ref (e_ad E a0)), (1, .int a1)] [] h (f_X0_isFramed h a0 a1) := by
  unfold f_X0_isFramed
  refine s_v (fun _ k => tk_aload_n G dX0_isFramed_0 0 rfl (tk_gr G kX0 dX0_isFramed_1 wF_X0_9 k0 gR_0_1 (tk_iload_n G dX0_isFramed_4 1 rfl k))) ?_
  refine s_iald G dX0_isFramed_5 (kF_0_1 k0) (fun v5 => ?_)
  refine s_v (fun _ k => tk_iconst G dX0_isFramed_6 cI_2 k) ?_
  refine s_icmp_ne (tgt := 24) G dX0_isFramed_7 (by decide) (fun q7 => ?_) (fun q7 => ?_)
  ·
    refine s_v (fun _ k => tk_aload_n G dX0_isFramed_10 0 rfl (tk_gr G kX0 dX0_isFramed_11 wF_X0_24 k0 gR_0_5 (tk_iload_n G dX0_isFramed_14 1 rfl k))) ?_
    refine s_iald G dX0_isFramed_15 (kF_0_5 k0) (fun v15 => ?_)
    refine s_v (fun _ k => tk_iconst G dX0_isFramed_16 cI_2 k) ?_
    refine s_icmp_lt (tgt := 24) G dX0_isFramed_17 (by decide) (fun q17 => ?_) (fun q17 => ?_)
    ·
      refine s_v (fun _ k => tk_iconst G dX0_isFramed_24 cI_0 k) ?_
      exact s_zret G dX0_isFramed_25 (by decide)
    ·
      refine s_v (fun _ k => tk_iconst G dX0_isFramed_20 cI_1 (tk_goto (tgt := 25) G dX0_isFramed_21 (by decide) k)) ?_
      exact s_zret G dX0_isFramed_25 (by decide)
  ·
    refine s_v (fun _ k => tk_iconst G dX0_isFramed_24 cI_0 k) ?_
    exact s_zret G dX0_isFramed_25 (by decide)
theorem c_X0_isFramed (E : tkE) (h : tkH) (a0 : Nat) (a1 : Int32) (k0 : kd a0 = 3) : ∀ x, f_X0_isFramed h a0 a1 = some x → tkM E yX0_isFramed cX0_isFramed 2 (some .boolean) 0 tkF [.ref (e_ad E a0), .int a1] h (some (.int x.1)) x.2 := fun x hx => tkM_of (by decide) (Nat.le_of_ble_eq_true rfl) (fun _ hR G => w_X0_isFramed hR G h a0 a1 k0 x hx)
set_option maxRecDepth 100000 in
set_option maxHeartbeats 4000000 in
theorem w_X0_printsLeadTo {E : tkE} {X : tkX} (hR : x_R X = tkR 0) (G : tkG E X cX0_printsLeadTo 5 RX0 (some .boolean)) (h : tkH) (a0 : Nat) (a1 : Int32) (a2 : Int32) (k0 : kd a0 = 3) : tkS E X 5 0 0 (tkZi E X) 0 [(0, .ref (e_ad E a0)), (1, .int a1), (2, .int a2)] [] h (f_X0_printsLeadTo h a0 a1 a2) := by
  unfold f_X0_printsLeadTo
  refine s_v (fun _ k => tk_iload_n G dX0_printsLeadTo_0 1 rfl (tk_istore_n (al' := [(3, .int a1), (0, .ref (e_ad E a0)), (1, .int a1), (2, .int a2)]) G dX0_printsLeadTo_1 (by decide) rfl (tk_iconst G dX0_printsLeadTo_2 cI_0 (tk_istore (al' := [(4, .int 0), (3, .int a1), (0, .ref (e_ad E a0)), (1, .int a1), (2, .int a2)]) G dX0_printsLeadTo_3 (by decide) rfl k)))) ?_
  refine s_sub [2, 4, 1, 0] (al' := [(0, .ref (e_ad E a0)), (2, .int a2), (3, .int a1), (4, .int 0)]) rfl ?_
  unfold f_X0_printsLeadTo_L5
  refine s_lp2 (al := fun y5_3 y5_4 => [(0, .ref (e_ad E a0)), (2, .int a2), (3, .int y5_3), (4, .int y5_4)]) (fun kk5 hL5 g5 y5_3 y5_4 => ?_) _ _ _ _
  refine s_v (fun _ k => tk_iload G dX0_printsLeadTo_5 3 rfl (tk_bipush G dX0_printsLeadTo_7 cB_10 k)) ?_
  refine s_icmp_ge (tgt := 36) G dX0_printsLeadTo_9 (by decide) (fun q9 => ?_) (fun q9 => ?_)
  ·
    refine s_v (fun _ k => tk_iconst G dX0_printsLeadTo_36 cI_0 k) ?_
    exact s_zret G dX0_printsLeadTo_37 (by decide)
  ·
    refine s_v (fun _ k => tk_iload_n G dX0_printsLeadTo_12 2 rfl k) ?_
    refine s_if_lt (tgt := 36) G dX0_printsLeadTo_13 (by decide) (fun q13 => ?_) (fun q13 => ?_)
    ·
      refine s_v (fun _ k => tk_iconst G dX0_printsLeadTo_36 cI_0 k) ?_
      exact s_zret G dX0_printsLeadTo_37 (by decide)
    ·
      refine s_v (fun _ k => tk_iload_n G dX0_printsLeadTo_16 2 rfl (tk_iload_n G dX0_printsLeadTo_17 1 rfl k)) ?_
      refine s_icmp_ne (tgt := 23) G dX0_printsLeadTo_18 (by decide) (fun q18 => ?_) (fun q18 => ?_)
      ·
        refine s_v (fun _ k => tk_iconst G dX0_printsLeadTo_21 cI_1 k) ?_
        exact s_zret G dX0_printsLeadTo_22 (by decide)
      ·
        refine s_v (fun _ k => tk_aload_n G dX0_printsLeadTo_23 0 rfl (tk_gr G kX0 dX0_printsLeadTo_24 wF_X0_21 k0 gR_0_4 (tk_iload_n G dX0_printsLeadTo_27 2 rfl k))) ?_
        refine s_iald G dX0_printsLeadTo_28 (kF_0_4 k0) (fun v28 => ?_)
        refine s_v (fun _ k => tk_istore_n (al' := [(3, .int v28), (0, .ref (e_ad E a0)), (2, .int a2), (4, .int y5_4)]) G dX0_printsLeadTo_29 (by decide) rfl (tk_iinc (al' := [(4, .int (y5_4 + 1)), (3, .int v28), (0, .ref (e_ad E a0)), (2, .int a2)]) G dX0_printsLeadTo_30 3 rfl (ci_1 _) (by decide) rfl (tk_goto (tgt := 5) G dX0_printsLeadTo_33 (by decide) k))) ?_
        refine s_sub [2, 3, 1, 0] (al' := [(0, .ref (e_ad E a0)), (2, .int a2), (3, .int v28), (4, .int (y5_4 + 1))]) rfl ?_
        exact hL5 _ _ _
theorem c_X0_printsLeadTo (E : tkE) (h : tkH) (a0 : Nat) (a1 : Int32) (a2 : Int32) (k0 : kd a0 = 3) : ∀ x, f_X0_printsLeadTo h a0 a1 a2 = some x → tkM E yX0_printsLeadTo cX0_printsLeadTo 5 (some .boolean) 0 tkF [.ref (e_ad E a0), .int a1, .int a2] h (some (.int x.1)) x.2 := fun x hx => tkM_of (by decide) (Nat.le_of_ble_eq_true rfl) (fun _ hR G => w_X0_printsLeadTo hR G h a0 a1 a2 k0 x hx)
set_option maxRecDepth 100000 in
set_option maxHeartbeats 4000000 in
theorem w_X0_setWay {E : tkE} {X : tkX} (hR : x_R X = tkR 0) (G : tkG E X cX0_setWay 4 RX0 none) (h : tkH) (a0 : Nat) (a1 : Int32) (a2 : Int32) (a3 : Int32) (k0 : kd a0 = 3) : tkS E X 4 0 0 (tkZv E X) 0 [(0, .ref (e_ad E a0)), (1, .int a1), (2, .int a2), (3, .int a3)] [] h (f_X0_setWay h a0 a1 a2 a3) := by
  unfold f_X0_setWay
  refine s_v (fun _ k => tk_aload_n G dX0_setWay_0 0 rfl (tk_gr G kX0 dX0_setWay_1 wF_X0_33 k0 gR_0_8 (tk_iload_n G dX0_setWay_4 1 rfl (tk_bipush G dX0_setWay_5 cB_6 (tk_imul G dX0_setWay_7 (tk_iload_n G dX0_setWay_8 2 rfl (tk_iadd G dX0_setWay_9 (tk_iload_n G dX0_setWay_10 3 rfl k)))))))) ?_
  refine s_iast G dX0_setWay_11 (kF_0_8 k0) (fun h11 => ?_)
  refine s_v (fun _ k => tk_aload_n G dX0_setWay_12 0 rfl (tk_gr G kX0 dX0_setWay_13 wF_X0_33 k0 gR_0_8 (tk_iload_n G dX0_setWay_16 2 rfl (tk_bipush G dX0_setWay_17 cB_6 (tk_imul G dX0_setWay_19 (tk_iload_n G dX0_setWay_20 1 rfl (tk_iadd G dX0_setWay_21 (tk_iload_n G dX0_setWay_22 3 rfl k)))))))) ?_
  refine s_iast G dX0_setWay_23 (kF_0_8 k0) (fun h23 => ?_)
  exact s_vret G dX0_setWay_24
theorem c_X0_setWay (E : tkE) (h : tkH) (a0 : Nat) (a1 : Int32) (a2 : Int32) (a3 : Int32) (k0 : kd a0 = 3) : ∀ x, f_X0_setWay h a0 a1 a2 a3 = some x → tkM E yX0_setWay cX0_setWay 4 none 0 tkF [.ref (e_ad E a0), .int a1, .int a2, .int a3] h none x := fun x hx => tkM_of (by decide) (Nat.le_of_ble_eq_true rfl) (fun _ hR G => w_X0_setWay hR G h a0 a1 a2 a3 k0 x hx)
set_option maxRecDepth 100000 in
set_option maxHeartbeats 4000000 in
theorem w_X0_stepAt {E : tkE} {X : tkX} (hR : x_R X = tkR 0) (G : tkG E X cX0_stepAt 3 RX0 (some .int)) (h : tkH) (a0 : Nat) (a1 : Int32) (a2 : Int32) (k0 : kd a0 = 3) : tkS E X 3 0 0 (tkZi E X) 0 [(0, .ref (e_ad E a0)), (1, .int a1), (2, .int a2)] [] h (f_X0_stepAt h a0 a1 a2) := by
  unfold f_X0_stepAt
  refine s_v (fun _ k => tk_aload_n G dX0_stepAt_0 0 rfl (tk_gr G kX0 dX0_stepAt_1 wF_X0_27 k0 gR_0_6 (tk_iload_n G dX0_stepAt_4 1 rfl (tk_bipush G dX0_stepAt_5 cB_10 (tk_imul G dX0_stepAt_7 (tk_iload_n G dX0_stepAt_8 2 rfl (tk_iadd G dX0_stepAt_9 k))))))) ?_
  refine s_iald G dX0_stepAt_10 (kF_0_6 k0) (fun v10 => ?_)
  exact s_iret G dX0_stepAt_11
theorem c_X0_stepAt (E : tkE) (h : tkH) (a0 : Nat) (a1 : Int32) (a2 : Int32) (k0 : kd a0 = 3) : ∀ x, f_X0_stepAt h a0 a1 a2 = some x → tkM E yX0_stepAt cX0_stepAt 3 (some .int) 0 tkF [.ref (e_ad E a0), .int a1, .int a2] h (some (.int x.1)) x.2 := fun x hx => tkM_of (by decide) (Nat.le_of_ble_eq_true rfl) (fun _ hR G => w_X0_stepAt hR G h a0 a1 a2 k0 x hx)
set_option maxRecDepth 100000 in
set_option maxHeartbeats 4000000 in
theorem w_X0_wayBetween {E : tkE} {X : tkX} (hR : x_R X = tkR 0) (G : tkG E X cX0_wayBetween 3 RX0 (some .int)) (h : tkH) (a0 : Nat) (a1 : Int32) (a2 : Int32) (k0 : kd a0 = 3) : tkS E X 3 0 0 (tkZi E X) 0 [(0, .ref (e_ad E a0)), (1, .int a1), (2, .int a2)] [] h (f_X0_wayBetween h a0 a1 a2) := by
  unfold f_X0_wayBetween
  refine s_v (fun _ k => tk_aload_n G dX0_wayBetween_0 0 rfl (tk_gr G kX0 dX0_wayBetween_1 wF_X0_33 k0 gR_0_8 (tk_iload_n G dX0_wayBetween_4 1 rfl (tk_bipush G dX0_wayBetween_5 cB_6 (tk_imul G dX0_wayBetween_7 (tk_iload_n G dX0_wayBetween_8 2 rfl (tk_iadd G dX0_wayBetween_9 k))))))) ?_
  refine s_iald G dX0_wayBetween_10 (kF_0_8 k0) (fun v10 => ?_)
  exact s_iret G dX0_wayBetween_11
theorem c_X0_wayBetween (E : tkE) (h : tkH) (a0 : Nat) (a1 : Int32) (a2 : Int32) (k0 : kd a0 = 3) : ∀ x, f_X0_wayBetween h a0 a1 a2 = some x → tkM E yX0_wayBetween cX0_wayBetween 3 (some .int) 0 tkF [.ref (e_ad E a0), .int a1, .int a2] h (some (.int x.1)) x.2 := fun x hx => tkM_of (by decide) (Nat.le_of_ble_eq_true rfl) (fun _ hR G => w_X0_wayBetween hR G h a0 a1 a2 k0 x hx)
set_option maxRecDepth 100000 in
set_option maxHeartbeats 4000000 in
theorem w_X1_leads {E : tkE} {X : tkX} (hR : x_R X = tkR 0) (G : tkG E X cX1_leads 3 RX1 (some .boolean)) (h : tkH) (a0 : Nat) (a1 : Int32) (a2 : Int32) (k0 : kd a0 = 4) : tkS E X 3 0 0 (tkZi E X) 0 [(0, .ref (e_ad E a0)), (1, .int a1), (2, .int a2)] [] h (f_X1_leads h a0 a1 a2) := by
  unfold f_X1_leads
  refine s_v (fun _ k => tk_aload_n G dX1_leads_0 0 rfl (tk_gr G kX1 dX1_leads_1 wF_X1_9 k0 gR_1_0 (tk_iload_n G dX1_leads_4 1 rfl k))) ?_
  refine s_iald G dX1_leads_5 (kF_1_0 k0) (fun v5 => ?_)
  have hJ32 : ∀ (g32 : tkH), tkS E X 3 0 0 (tkZi E X) 32 [(0, .ref (e_ad E a0)), (1, .int a1), (2, .int a2)] [] g32 (f_X1_leads_J32 a0 a1 a2 g32) := by
    intro g32
    unfold f_X1_leads_J32
    refine s_v (fun _ k => tk_aload_n G dX1_leads_32 0 rfl (tk_gr G kX1 dX1_leads_33 wF_X1_9 k0 gR_1_0 (tk_iload_n G dX1_leads_36 1 rfl k))) ?_
    refine s_iald G dX1_leads_37 (kF_1_0 k0) (fun v37 => ?_)
    refine s_v (fun _ k => tk_iload_n G dX1_leads_38 2 rfl k) ?_
    refine s_icmp_ne (tgt := 46) G dX1_leads_39 (by decide) (fun q39 => ?_) (fun q39 => ?_)
    ·
      refine s_v (fun _ k => tk_iconst G dX1_leads_42 cI_1 (tk_goto (tgt := 47) G dX1_leads_43 (by decide) k)) ?_
      exact s_zret G dX1_leads_47 (by decide)
    ·
      refine s_v (fun _ k => tk_iconst G dX1_leads_46 cI_0 k) ?_
      exact s_zret G dX1_leads_47 (by decide)
  refine s_if_ge (tgt := 32) G dX1_leads_6 (by decide) (fun q6 => ?_) (fun q6 => ?_)
  ·
    exact hJ32 _
  ·
    refine s_v (fun _ k => tk_aload_n G dX1_leads_9 0 rfl (tk_gr G kX1 dX1_leads_10 wF_X1_15 k0 gR_1_1 (tk_iload_n G dX1_leads_13 2 rfl k))) ?_
    refine s_iald G dX1_leads_14 (kF_1_1 k0) (fun v14 => ?_)
    refine s_if_ge (tgt := 32) G dX1_leads_15 (by decide) (fun q15 => ?_) (fun q15 => ?_)
    ·
      exact hJ32 _
    ·
      refine s_v (fun _ k => tk_aload_n G dX1_leads_18 0 rfl (tk_gr G kX1 dX1_leads_19 wF_X1_9 k0 gR_1_0 (tk_iload_n G dX1_leads_22 1 rfl (tk_iload_n G dX1_leads_23 2 rfl k)))) ?_
      refine s_iast G dX1_leads_24 (kF_1_0 k0) (fun h24 => ?_)
      refine s_v (fun _ k => tk_aload_n G dX1_leads_25 0 rfl (tk_gr G kX1 dX1_leads_26 wF_X1_15 k0 gR_1_1 (tk_iload_n G dX1_leads_29 2 rfl (tk_iload_n G dX1_leads_30 1 rfl k)))) ?_
      refine s_iast G dX1_leads_31 (kF_1_1 k0) (fun h31 => ?_)
      exact hJ32 _
theorem c_X1_leads (E : tkE) (h : tkH) (a0 : Nat) (a1 : Int32) (a2 : Int32) (k0 : kd a0 = 4) : ∀ x, f_X1_leads h a0 a1 a2 = some x → tkM E yX1_leads cX1_leads 3 (some .boolean) 0 tkF [.ref (e_ad E a0), .int a1, .int a2] h (some (.int x.1)) x.2 := fun x hx => tkM_of (by decide) (Nat.le_of_ble_eq_true rfl) (fun _ hR G => w_X1_leads hR G h a0 a1 a2 k0 x hx)
set_option maxRecDepth 100000 in
set_option maxHeartbeats 4000000 in
theorem w_X2_forget {E : tkE} {X : tkX} (hR : x_R X = tkR 0) (G : tkG E X cX2_forget 3 RX2 none) (h : tkH) (a0 : Nat) (a1 : Int32) (k0 : kd a0 = 5) : tkS E X 3 0 0 (tkZv E X) 0 [(0, .ref (e_ad E a0)), (1, .int a1)] [] h (f_X2_forget h a0 a1) := by
  unfold f_X2_forget
  refine s_v (fun _ k => tk_iconst G dX2_forget_0 cI_0 (tk_istore_n (al' := [(2, .int 0), (0, .ref (e_ad E a0)), (1, .int a1)]) G dX2_forget_1 (by decide) rfl k)) ?_
  refine s_sub [1, 2, 0] (al' := [(0, .ref (e_ad E a0)), (1, .int a1), (2, .int 0)]) rfl ?_
  unfold f_X2_forget_L2
  refine s_lp1 (al := fun y2_2 => [(0, .ref (e_ad E a0)), (1, .int a1), (2, .int y2_2)]) (fun kk2 hL2 g2 y2_2 => ?_) _ _ _
  refine s_v (fun _ k => tk_iload_n G dX2_forget_2 2 rfl (tk_bipush G dX2_forget_3 cB_10 k)) ?_
  refine s_icmp_ge (tgt := 38) G dX2_forget_5 (by decide) (fun q5 => ?_) (fun q5 => ?_)
  ·
    exact s_vret G dX2_forget_38
  ·
    refine s_v (fun _ k => tk_aload_n G dX2_forget_8 0 rfl (tk_gr G kX2 dX2_forget_9 wF_X2_18 k0 gR_2_1 (tk_iload_n G dX2_forget_12 1 rfl (tk_bipush G dX2_forget_13 cB_10 (tk_imul G dX2_forget_15 (tk_iload_n G dX2_forget_16 2 rfl (tk_iadd G dX2_forget_17 (tk_iconst G dX2_forget_18 cI_m1 k)))))))) ?_
    refine s_iast G dX2_forget_19 (kF_2_1 k0) (fun h19 => ?_)
    refine s_v (fun _ k => tk_aload_n G dX2_forget_20 0 rfl (tk_gr G kX2 dX2_forget_21 wF_X2_18 k0 gR_2_1 (tk_iload_n G dX2_forget_24 2 rfl (tk_bipush G dX2_forget_25 cB_10 (tk_imul G dX2_forget_27 (tk_iload_n G dX2_forget_28 1 rfl (tk_iadd G dX2_forget_29 (tk_iconst G dX2_forget_30 cI_m1 k)))))))) ?_
    refine s_iast G dX2_forget_31 (kF_2_1 k0) (fun h31 => ?_)
    refine s_v (fun _ k => tk_iinc (al' := [(2, .int (y2_2 + 1)), (0, .ref (e_ad E a0)), (1, .int a1)]) G dX2_forget_32 2 rfl (ci_1 _) (by decide) rfl (tk_goto (tgt := 2) G dX2_forget_35 (by decide) k)) ?_
    refine s_sub [1, 2, 0] (al' := [(0, .ref (e_ad E a0)), (1, .int a1), (2, .int (y2_2 + 1))]) rfl ?_
    exact hL2 _ _
theorem c_X2_forget (E : tkE) (h : tkH) (a0 : Nat) (a1 : Int32) (k0 : kd a0 = 5) : ∀ x, f_X2_forget h a0 a1 = some x → tkM E yX2_forget cX2_forget 3 none 0 tkF [.ref (e_ad E a0), .int a1] h none x := fun x hx => tkM_of (by decide) (Nat.le_of_ble_eq_true rfl) (fun _ hR G => w_X2_forget hR G h a0 a1 k0 x hx)
set_option maxRecDepth 100000 in
set_option maxHeartbeats 4000000 in
theorem w_X4_endPrice {E : tkE} {X : tkX} (hR : x_R X = tkR 0) (G : tkG E X cX4_endPrice 5 RX4 (some .int)) (h : tkH) (a0 : Nat) (a1 : Int32) (a2 : Int32) (k0 : kd a0 = 7) : tkS E X 5 0 0 (tkZi E X) 0 [(0, .ref (e_ad E a0)), (1, .int a1), (2, .int a2)] [] h (f_X4_endPrice h a0 a1 a2) := by
  unfold f_X4_endPrice
  refine s_v (fun _ k => tk_aload_n G dX4_endPrice_0 0 rfl (tk_gr G kX4 dX4_endPrice_1 wF_X4_18 k0 gR_4_1 (tk_gi G kX5 dX4_endPrice_4 wF_X4_93 (kF_4_1 k0) gI_5_2 k))) ?_
  have hJ28 : ∀ (g28 : tkH) (t28_0 : Int32), tkS E X 5 0 0 (tkZi E X) 28 [(0, .ref (e_ad E a0)), (2, .int a2)] [.int t28_0] g28 (f_X4_endPrice_J28 a0 a2 g28 t28_0) := by
    intro g28 t28_0
    unfold f_X4_endPrice_J28
    refine s_v (fun _ k => tk_istore_n (al' := [(3, .int t28_0), (0, .ref (e_ad E a0)), (2, .int a2)]) G dX4_endPrice_28 (by decide) rfl (tk_aload_n G dX4_endPrice_29 1 rfl (tk_gr G kX4 dX4_endPrice_30 wF_X4_12 k0 gR_4_0 (tk_gi G kX5 dX4_endPrice_33 wF_X4_93 (kF_4_0 k0) gI_5_2 k)))) ?_
    refine s_if_eq (tgt := 43) G dX4_endPrice_36 (by decide) (fun q36 => ?_) (fun q36 => ?_)
    ·
      refine s_v (fun _ k => tk_aload_n G dX4_endPrice_43 1 rfl (tk_gr G kX4 dX4_endPrice_44 wF_X4_18 k0 gR_4_1 (tk_gi G kX5 dX4_endPrice_47 wF_X4_59 (kF_4_1 k0) gI_5_1 (tk_iload_n G dX4_endPrice_50 2 rfl (tk_isub G dX4_endPrice_51 (tk_aload_n G dX4_endPrice_52 1 rfl (tk_gi G kX4 dX4_endPrice_53 wF_X4_38 k0 gI_4_7 (tk_imul G dX4_endPrice_56 (tk_istore (al' := [(4, .int (((g28 (fld a0 1) 1) - a2) * (g28 a0 7))), (3, .int t28_0), (0, .ref (e_ad E a0)), (2, .int a2)]) G dX4_endPrice_57 (by decide) rfl (tk_iload_n G dX4_endPrice_59 1 rfl (tk_iload G dX4_endPrice_60 0 rfl (tk_iadd G dX4_endPrice_62 k)))))))))))) ?_
      exact s_iret G dX4_endPrice_63
    ·
      refine s_v (fun _ k => tk_iconst G dX4_endPrice_39 cI_0 (tk_goto (tgt := 57) G dX4_endPrice_40 (by decide) k)) ?_
      refine s_v (fun _ k => tk_istore (al' := [(4, .int 0), (3, .int t28_0), (0, .ref (e_ad E a0)), (2, .int a2)]) G dX4_endPrice_57 (by decide) rfl (tk_iload_n G dX4_endPrice_59 1 rfl (tk_iload G dX4_endPrice_60 0 rfl (tk_iadd G dX4_endPrice_62 k)))) ?_
      exact s_iret G dX4_endPrice_63
  refine s_if_eq (tgt := 14) G dX4_endPrice_7 (by decide) (fun q7 => ?_) (fun q7 => ?_)
  ·
    refine s_v (fun _ k => tk_aload_n G dX4_endPrice_14 0 rfl (tk_gr G kX4 dX4_endPrice_15 wF_X4_12 k0 gR_4_0 (tk_gi G kX5 dX4_endPrice_18 wF_X4_59 (kF_4_0 k0) gI_5_1 (tk_iload_n G dX4_endPrice_21 1 rfl (tk_isub G dX4_endPrice_22 (tk_aload_n G dX4_endPrice_23 0 rfl (tk_gi G kX4 dX4_endPrice_24 wF_X4_38 k0 gI_4_7 (tk_imul G dX4_endPrice_27 k)))))))) ?_
    refine s_sub [0, 2] (al' := [(0, .ref (e_ad E a0)), (2, .int a2)]) rfl ?_
    exact hJ28 _ _
  ·
    refine s_v (fun _ k => tk_iconst G dX4_endPrice_10 cI_0 (tk_goto (tgt := 28) G dX4_endPrice_11 (by decide) k)) ?_
    refine s_sub [0, 2] (al' := [(0, .ref (e_ad E a0)), (2, .int a2)]) rfl ?_
    exact hJ28 _ _
theorem c_X4_endPrice (E : tkE) (h : tkH) (a0 : Nat) (a1 : Int32) (a2 : Int32) (k0 : kd a0 = 7) : ∀ x, f_X4_endPrice h a0 a1 a2 = some x → tkM E yX4_endPrice cX4_endPrice 5 (some .int) 0 tkF [.ref (e_ad E a0), .int a1, .int a2] h (some (.int x.1)) x.2 := fun x hx => tkM_of (by decide) (Nat.le_of_ble_eq_true rfl) (fun _ hR G => w_X4_endPrice hR G h a0 a1 a2 k0 x hx)
set_option maxRecDepth 100000 in
set_option maxHeartbeats 4000000 in
theorem w_X4_pairPrice {E : tkE} {X : tkX} (hR : x_R X = tkR 0) (G : tkG E X cX4_pairPrice 5 RX4 (some .int)) (h : tkH) (a0 : Nat) (a1 : Int32) (a2 : Int32) (k0 : kd a0 = 7) : tkS E X 5 0 0 (tkZi E X) 0 [(0, .ref (e_ad E a0)), (1, .int a1), (2, .int a2)] [] h (f_X4_pairPrice h a0 a1 a2) := by
  unfold f_X4_pairPrice
  refine s_v (fun _ k => tk_aload_n G dX4_pairPrice_0 0 rfl (tk_gr G kX4 dX4_pairPrice_1 wF_X4_21 k0 gR_4_2 (tk_iload_n G dX4_pairPrice_4 1 rfl k))) ?_
  refine s_iald G dX4_pairPrice_5 (kF_4_2 k0) (fun v5 => ?_)
  refine s_v (fun _ k => tk_aload_n G dX4_pairPrice_6 0 rfl (tk_gr G kX4 dX4_pairPrice_7 wF_X4_18 k0 gR_4_1 (tk_gr G kX5 dX4_pairPrice_10 wF_X4_62 (kF_4_1 k0) gR_5_0 (tk_iload_n G dX4_pairPrice_13 2 rfl k)))) ?_
  refine s_iald G dX4_pairPrice_14 (kF_5_0 (kF_4_1 k0)) (fun v14 => ?_)
  refine s_v (fun _ k => tk_ixor G dX4_pairPrice_15 (tk_istore_n (al' := [(3, .int (v5 ^^^ v14)), (0, .ref (e_ad E a0)), (1, .int a1), (2, .int a2)]) G dX4_pairPrice_16 (by decide) rfl (tk_iload_n G dX4_pairPrice_17 0 rfl (tk_sipush G dX4_pairPrice_18 cS_240 (tk_iand G dX4_pairPrice_21 k))))) ?_
  have hJ33 : ∀ (g33 : tkH) (t33_0 : Int32), tkS E X 5 0 0 (tkZi E X) 33 [(0, .ref (e_ad E a0)), (3, .int (v5 ^^^ v14))] [.int t33_0] g33 (f_X4_pairPrice_J33 v5 v14 a0 g33 t33_0) := by
    intro g33 t33_0
    unfold f_X4_pairPrice_J33
    refine s_v (fun _ k => tk_istore (al' := [(4, .int t33_0), (0, .ref (e_ad E a0)), (3, .int (v5 ^^^ v14))]) G dX4_pairPrice_33 (by decide) rfl (tk_iload_n G dX4_pairPrice_35 2 rfl (tk_bipush G dX4_pairPrice_36 cB_12 (tk_iand G dX4_pairPrice_38 k)))) ?_
    have hJ51 : ∀ (g51 : tkH) (y51_4 : Int32), tkS E X 5 0 0 (tkZi E X) 51 [(0, .ref (e_ad E a0)), (3, .int (v5 ^^^ v14)), (4, .int y51_4)] [] g51 (f_X4_pairPrice_J51 v5 v14 a0 g51 y51_4) := by
      intro g51 y51_4
      unfold f_X4_pairPrice_J51
      refine s_v (fun _ k => tk_iload_n G dX4_pairPrice_51 1 rfl (tk_iconst G dX4_pairPrice_52 cI_3 (tk_iand G dX4_pairPrice_53 k))) ?_
      refine s_if_eq (tgt := 67) G dX4_pairPrice_54 (by decide) (fun q54 => ?_) (fun q54 => ?_)
      ·
        refine s_v (fun _ k => tk_iload G dX4_pairPrice_67 2 rfl k) ?_
        exact s_iret G dX4_pairPrice_69
      ·
        refine s_v (fun _ k => tk_iload G dX4_pairPrice_57 2 rfl (tk_aload_n G dX4_pairPrice_59 0 rfl (tk_gi G kX4 dX4_pairPrice_60 wF_X4_35 k0 gI_4_6 (tk_iadd G dX4_pairPrice_63 (tk_goto (tgt := 69) G dX4_pairPrice_64 (by decide) k))))) ?_
        exact s_iret G dX4_pairPrice_69
    refine s_if_eq (tgt := 51) G dX4_pairPrice_39 (by decide) (fun q39 => ?_) (fun q39 => ?_)
    ·
      refine s_sub [1, 2, 0] (al' := [(0, .ref (e_ad E a0)), (3, .int (v5 ^^^ v14)), (4, .int t33_0)]) rfl ?_
      exact hJ51 _ _
    ·
      refine s_v (fun _ k => tk_iload G dX4_pairPrice_42 0 rfl (tk_aload_n G dX4_pairPrice_44 1 rfl (tk_gi G kX4 dX4_pairPrice_45 wF_X4_35 k0 gI_4_6 (tk_iadd G dX4_pairPrice_48 (tk_istore (al' := [(4, .int (t33_0 + (g33 a0 6))), (0, .ref (e_ad E a0)), (3, .int (v5 ^^^ v14))]) G dX4_pairPrice_49 (by decide) rfl k))))) ?_
      refine s_sub [1, 2, 0] (al' := [(0, .ref (e_ad E a0)), (3, .int (v5 ^^^ v14)), (4, .int (t33_0 + (g33 a0 6)))]) rfl ?_
      exact hJ51 _ _
  refine s_if_eq (tgt := 32) G dX4_pairPrice_22 (by decide) (fun q22 => ?_) (fun q22 => ?_)
  ·
    refine s_v (fun _ k => tk_iconst G dX4_pairPrice_32 cI_0 k) ?_
    refine s_sub [1, 0] (al' := [(0, .ref (e_ad E a0)), (3, .int (v5 ^^^ v14))]) rfl ?_
    exact hJ33 _ _
  ·
    refine s_v (fun _ k => tk_aload_n G dX4_pairPrice_25 1 rfl (tk_gi G kX4 dX4_pairPrice_26 wF_X4_31 k0 gI_4_5 (tk_goto (tgt := 33) G dX4_pairPrice_29 (by decide) k))) ?_
    refine s_sub [1, 0] (al' := [(0, .ref (e_ad E a0)), (3, .int (v5 ^^^ v14))]) rfl ?_
    exact hJ33 _ _
theorem c_X4_pairPrice (E : tkE) (h : tkH) (a0 : Nat) (a1 : Int32) (a2 : Int32) (k0 : kd a0 = 7) : ∀ x, f_X4_pairPrice h a0 a1 a2 = some x → tkM E yX4_pairPrice cX4_pairPrice 5 (some .int) 0 tkF [.ref (e_ad E a0), .int a1, .int a2] h (some (.int x.1)) x.2 := fun x hx => tkM_of (by decide) (Nat.le_of_ble_eq_true rfl) (fun _ hR G => w_X4_pairPrice hR G h a0 a1 a2 k0 x hx)
set_option maxRecDepth 100000 in
set_option maxHeartbeats 4000000 in
theorem w_X6_holds {E : tkE} {X : tkX} (hR : x_R X = tkR 0) (G : tkG E X cX6_holds 3 RX6 (some .boolean)) (h : tkH) (a0 : Nat) (a1 : Int32) (a2 : Int32) (k0 : kd a0 = 9) : tkS E X 3 0 0 (tkZi E X) 0 [(0, .ref (e_ad E a0)), (1, .int a1), (2, .int a2)] [] h (f_X6_holds h a0 a1 a2) := by
  unfold f_X6_holds
  refine s_v (fun _ k => tk_iload_n G dX6_holds_0 1 rfl k) ?_
  refine s_if_lt (tgt := 22) G dX6_holds_1 (by decide) (fun q1 => ?_) (fun q1 => ?_)
  ·
    refine s_v (fun _ k => tk_iconst G dX6_holds_22 cI_0 k) ?_
    exact s_zret G dX6_holds_23 (by decide)
  ·
    refine s_v (fun _ k => tk_iload_n G dX6_holds_4 2 rfl k) ?_
    refine s_if_lt (tgt := 22) G dX6_holds_5 (by decide) (fun q5 => ?_) (fun q5 => ?_)
    ·
      refine s_v (fun _ k => tk_iconst G dX6_holds_22 cI_0 k) ?_
      exact s_zret G dX6_holds_23 (by decide)
    ·
      refine s_v (fun _ k => tk_iload_n G dX6_holds_8 2 rfl (tk_aload_n G dX6_holds_9 0 rfl (tk_gi G kX6 dX6_holds_10 wF_X6_19 k0 gI_6_1 (tk_iload_n G dX6_holds_13 1 rfl (tk_isub G dX6_holds_14 k))))) ?_
      refine s_icmp_gt (tgt := 22) G dX6_holds_15 (by decide) (fun q15 => ?_) (fun q15 => ?_)
      ·
        refine s_v (fun _ k => tk_iconst G dX6_holds_22 cI_0 k) ?_
        exact s_zret G dX6_holds_23 (by decide)
      ·
        refine s_v (fun _ k => tk_iconst G dX6_holds_18 cI_1 (tk_goto (tgt := 23) G dX6_holds_19 (by decide) k)) ?_
        exact s_zret G dX6_holds_23 (by decide)
theorem c_X6_holds (E : tkE) (h : tkH) (a0 : Nat) (a1 : Int32) (a2 : Int32) (k0 : kd a0 = 9) : ∀ x, f_X6_holds h a0 a1 a2 = some x → tkM E yX6_holds cX6_holds 3 (some .boolean) 0 tkF [.ref (e_ad E a0), .int a1, .int a2] h (some (.int x.1)) x.2 := fun x hx => tkM_of (by decide) (Nat.le_of_ble_eq_true rfl) (fun _ hR G => w_X6_holds hR G h a0 a1 a2 k0 x hx)
set_option maxRecDepth 100000 in
set_option maxHeartbeats 4000000 in
theorem w_X6_howManySteps {E : tkE} {X : tkX} (hR : x_R X = tkR 0) (G : tkG E X cX6_howManySteps 1 RX6 (some .int)) (h : tkH) (a0 : Nat) (k0 : kd a0 = 9) : tkS E X 1 0 0 (tkZi E X) 0 [(0, .ref (e_ad E a0))] [] h (f_X6_howManySteps h a0) := by
  unfold f_X6_howManySteps
  refine s_v (fun _ k => tk_aload_n G dX6_howManySteps_0 0 rfl (tk_gi G kX6 dX6_howManySteps_1 wF_X6_19 k0 gI_6_1 (tk_iconst G dX6_howManySteps_4 cI_3 (tk_idiv G dX6_howManySteps_5 (by decide) k)))) ?_
  exact s_iret G dX6_howManySteps_6
theorem c_X6_howManySteps (E : tkE) (h : tkH) (a0 : Nat) (k0 : kd a0 = 9) : ∀ x, f_X6_howManySteps h a0 = some x → tkM E yX6_howManySteps cX6_howManySteps 1 (some .int) 0 tkF [.ref (e_ad E a0)] h (some (.int x.1)) x.2 := fun x hx => tkM_of (by decide) (Nat.le_of_ble_eq_true rfl) (fun _ hR G => w_X6_howManySteps hR G h a0 k0 x hx)
set_option maxRecDepth 100000 in
set_option maxHeartbeats 4000000 in
theorem w_X6_isMissing {E : tkE} {X : tkX} (hR : x_R X = tkR 0) (G : tkG E X cX6_isMissing 1 RX6 (some .boolean)) (h : tkH) (a0 : Nat) (k0 : kd a0 = 9) : tkS E X 1 0 0 (tkZi E X) 0 [(0, .ref (e_ad E a0))] [] h (f_X6_isMissing h a0) := by
  unfold f_X6_isMissing
  refine s_v (fun _ k => tk_aload_n G dX6_isMissing_0 0 rfl (tk_gi G kX6 dX6_isMissing_1 wF_X6_15 k0 gI_6_0 k)) ?_
  refine s_if_ne (tgt := 11) G dX6_isMissing_4 (by decide) (fun q4 => ?_) (fun q4 => ?_)
  ·
    refine s_v (fun _ k => tk_iconst G dX6_isMissing_7 cI_1 (tk_goto (tgt := 12) G dX6_isMissing_8 (by decide) k)) ?_
    exact s_zret G dX6_isMissing_12 (by decide)
  ·
    refine s_v (fun _ k => tk_iconst G dX6_isMissing_11 cI_0 k) ?_
    exact s_zret G dX6_isMissing_12 (by decide)
theorem c_X6_isMissing (E : tkE) (h : tkH) (a0 : Nat) (k0 : kd a0 = 9) : ∀ x, f_X6_isMissing h a0 = some x → tkM E yX6_isMissing cX6_isMissing 1 (some .boolean) 0 tkF [.ref (e_ad E a0)] h (some (.int x.1)) x.2 := fun x hx => tkM_of (by decide) (Nat.le_of_ble_eq_true rfl) (fun _ hR G => w_X6_isMissing hR G h a0 k0 x hx)
set_option maxRecDepth 100000 in
set_option maxHeartbeats 4000000 in
theorem w_X6_write {E : tkE} {X : tkX} (hR : x_R X = tkR 0) (G : tkG E X cX6_write 3 RX6 none) (h : tkH) (a0 : Nat) (a1 : Int32) (a2 : Int32) (k0 : kd a0 = 9) : tkS E X 3 0 0 (tkZv E X) 0 [(0, .ref (e_ad E a0)), (1, .int a1), (2, .int a2)] [] h (f_X6_write h a0 a1 a2) := by
  unfold f_X6_write
  refine s_v (fun _ k => tk_aload_n G dX6_write_0 0 rfl (tk_gr G kX6 dX6_write_1 wF_X6_9 k0 gR_6_2 (tk_iload_n G dX6_write_4 1 rfl (tk_aload_n G dX6_write_5 0 rfl (tk_gi G kX6 dX6_write_6 wF_X6_15 k0 gI_6_0 (tk_bipush G dX6_write_9 cB_8 k)))))) ?_
  have hJ39 : ∀ (g39 : tkH) (t39_0 : Int32), tkS E X 3 0 0 (tkZv E X) 39 [] [.int t39_0, .int a1, .ref (e_ad E (fld a0 2))] g39 (f_X6_write_J39 a0 a1 g39 t39_0) := by
    intro g39 t39_0
    unfold f_X6_write_J39
    refine s_iast G dX6_write_39 (kF_6_2 k0) (fun h39 => ?_)
    exact s_vret G dX6_write_40
  refine s_icmp_ne (tgt := 22) G dX6_write_11 (by decide) (fun q11 => ?_) (fun q11 => ?_)
  ·
    refine s_v (fun _ k => tk_iload_n G dX6_write_14 2 rfl (tk_sipush G dX6_write_15 cS_255 (tk_iand G dX6_write_18 (tk_goto (tgt := 39) G dX6_write_19 (by decide) k)))) ?_
    refine s_sub [] (al' := []) rfl ?_
    exact hJ39 _ _
  ·
    refine s_v (fun _ k => tk_aload_n G dX6_write_22 0 rfl (tk_gi G kX6 dX6_write_23 wF_X6_15 k0 gI_6_0 (tk_bipush G dX6_write_26 cB_16 k))) ?_
    refine s_icmp_ne (tgt := 38) G dX6_write_28 (by decide) (fun q28 => ?_) (fun q28 => ?_)
    ·
      refine s_v (fun _ k => tk_iload_n G dX6_write_31 2 rfl (tk_ldc G dX6_write_32 wK_X6_28 (tk_iand G dX6_write_34 (tk_goto (tgt := 39) G dX6_write_35 (by decide) k)))) ?_
      refine s_sub [] (al' := []) rfl ?_
      exact hJ39 _ _
    ·
      refine s_v (fun _ k => tk_iload_n G dX6_write_38 2 rfl k) ?_
      refine s_sub [] (al' := []) rfl ?_
      exact hJ39 _ _
theorem c_X6_write (E : tkE) (h : tkH) (a0 : Nat) (a1 : Int32) (a2 : Int32) (k0 : kd a0 = 9) : ∀ x, f_X6_write h a0 a1 a2 = some x → tkM E yX6_write cX6_write 3 none 0 tkF [.ref (e_ad E a0), .int a1, .int a2] h none x := fun x hx => tkM_of (by decide) (Nat.le_of_ble_eq_true rfl) (fun _ hR G => w_X6_write hR G h a0 a1 a2 k0 x hx)
set_option maxRecDepth 100000 in
set_option maxHeartbeats 4000000 in
theorem w_X7_joinParts {E : tkE} {X : tkX} (hR : x_R X = tkR 0) (G : tkG E X cX7_joinParts 4 RX7 none) (h : tkH) (a0 : Nat) (a1 : Int32) (a2 : Int32) (k0 : kd a0 = 10) : tkS E X 4 0 0 (tkZv E X) 0 [(0, .ref (e_ad E a0)), (1, .int a1), (2, .int a2)] [] h (f_X7_joinParts h a0 a1 a2) := by
  unfold f_X7_joinParts
  refine s_v (fun _ k => tk_iconst G dX7_joinParts_0 cI_0 (tk_istore_n (al' := [(3, .int 0), (0, .ref (e_ad E a0)), (1, .int a1), (2, .int a2)]) G dX7_joinParts_1 (by decide) rfl k)) ?_
  refine s_sub [1, 2, 3, 0] (al' := [(0, .ref (e_ad E a0)), (1, .int a1), (2, .int a2), (3, .int 0)]) rfl ?_
  unfold f_X7_joinParts_L2
  refine s_lp1 (al := fun y2_3 => [(0, .ref (e_ad E a0)), (1, .int a1), (2, .int a2), (3, .int y2_3)]) (fun kk2 hL2 g2 y2_3 => ?_) _ _ _
  refine s_v (fun _ k => tk_iload_n G dX7_joinParts_2 3 rfl (tk_bipush G dX7_joinParts_3 cB_10 k)) ?_
  refine s_icmp_ge (tgt := 31) G dX7_joinParts_5 (by decide) (fun q5 => ?_) (fun q5 => ?_)
  ·
    exact s_vret G dX7_joinParts_31
  ·
    refine s_v (fun _ k => tk_aload_n G dX7_joinParts_8 0 rfl (tk_gr G kX7 dX7_joinParts_9 wF_X7_9 k0 gR_7_0 (tk_iload_n G dX7_joinParts_12 3 rfl k))) ?_
    refine s_iald G dX7_joinParts_13 (kF_7_0 k0) (fun v13 => ?_)
    refine s_v (fun _ k => tk_iload_n G dX7_joinParts_14 2 rfl k) ?_
    refine s_icmp_ne (tgt := 25) G dX7_joinParts_15 (by decide) (fun q15 => ?_) (fun q15 => ?_)
    ·
      refine s_v (fun _ k => tk_aload_n G dX7_joinParts_18 0 rfl (tk_gr G kX7 dX7_joinParts_19 wF_X7_9 k0 gR_7_0 (tk_iload_n G dX7_joinParts_22 3 rfl (tk_iload_n G dX7_joinParts_23 1 rfl k)))) ?_
      refine s_iast G dX7_joinParts_24 (kF_7_0 k0) (fun h24 => ?_)
      refine s_v (fun _ k => tk_iinc (al' := [(3, .int (y2_3 + 1)), (0, .ref (e_ad E a0)), (1, .int a1), (2, .int a2)]) G dX7_joinParts_25 3 rfl (ci_1 _) (by decide) rfl (tk_goto (tgt := 2) G dX7_joinParts_28 (by decide) k)) ?_
      refine s_sub [1, 2, 3, 0] (al' := [(0, .ref (e_ad E a0)), (1, .int a1), (2, .int a2), (3, .int (y2_3 + 1))]) rfl ?_
      exact hL2 _ _
    ·
      refine s_v (fun _ k => tk_iinc (al' := [(3, .int (y2_3 + 1)), (0, .ref (e_ad E a0)), (1, .int a1), (2, .int a2)]) G dX7_joinParts_25 3 rfl (ci_1 _) (by decide) rfl (tk_goto (tgt := 2) G dX7_joinParts_28 (by decide) k)) ?_
      refine s_sub [1, 2, 3, 0] (al' := [(0, .ref (e_ad E a0)), (1, .int a1), (2, .int a2), (3, .int (y2_3 + 1))]) rfl ?_
      exact hL2 _ _
theorem c_X7_joinParts (E : tkE) (h : tkH) (a0 : Nat) (a1 : Int32) (a2 : Int32) (k0 : kd a0 = 10) : ∀ x, f_X7_joinParts h a0 a1 a2 = some x → tkM E yX7_joinParts cX7_joinParts 4 none 0 tkF [.ref (e_ad E a0), .int a1, .int a2] h none x := fun x hx => tkM_of (by decide) (Nat.le_of_ble_eq_true rfl) (fun _ hR G => w_X7_joinParts hR G h a0 a1 a2 k0 x hx)
set_option maxRecDepth 100000 in
set_option maxHeartbeats 4000000 in
theorem w_X8_finding {E : tkE} {X : tkX} (hR : x_R X = tkR 0) (G : tkG E X cX8_finding 2 RX8 (some .int)) (h : tkH) (a0 : Nat) (a1 : Int32) (k0 : kd a0 = 11) : tkS E X 2 0 0 (tkZi E X) 0 [(0, .ref (e_ad E a0)), (1, .int a1)] [] h (f_X8_finding h a0 a1) := by
  unfold f_X8_finding
  refine s_v (fun _ k => tk_aload_n G dX8_finding_0 0 rfl (tk_dup G dX8_finding_1 rfl (tk_gi G kX8 dX8_finding_2 wF_X8_51 k0 gI_8_6 (tk_iconst G dX8_finding_5 cI_1 (tk_iadd G dX8_finding_6 (tk_pi G kX8 dX8_finding_7 wF_X8_51 k0 gP_8_6 (tk_iload_n G dX8_finding_10 1 rfl k))))))) ?_
  exact s_iret G dX8_finding_11
theorem c_X8_finding (E : tkE) (h : tkH) (a0 : Nat) (a1 : Int32) (k0 : kd a0 = 11) : ∀ x, f_X8_finding h a0 a1 = some x → tkM E yX8_finding cX8_finding 2 (some .int) 0 tkF [.ref (e_ad E a0), .int a1] h (some (.int x.1)) x.2 := fun x hx => tkM_of (by decide) (Nat.le_of_ble_eq_true rfl) (fun _ hR G => w_X8_finding hR G h a0 a1 k0 x hx)
set_option maxRecDepth 100000 in
set_option maxHeartbeats 4000000 in
theorem w_X8_goal {E : tkE} {X : tkX} (hR : x_R X = tkR 0) (G : tkG E X cX8_goal 2 RX8 (some .int)) (h : tkH) (a0 : Int32) (a1 : Int32)  : tkS E X 2 0 0 (tkZi E X) 0 [(0, .int a0), (1, .int a1)] [] h (f_X8_goal h a0 a1) := by
  unfold f_X8_goal
  refine s_v (fun _ k => tk_iload_n G dX8_goal_0 0 rfl (tk_bipush G dX8_goal_1 cB_12 (tk_iconst G dX8_goal_3 cI_4 (tk_iload_n G dX8_goal_4 1 rfl (tk_imul G dX8_goal_5 (tk_isub G dX8_goal_6 (tk_ishr G dX8_goal_7 (tk_iconst G dX8_goal_8 cI_3 (tk_iand G dX8_goal_9 k))))))))) ?_
  exact s_iret G dX8_goal_10
theorem c_X8_goal (E : tkE) (h : tkH) (a0 : Int32) (a1 : Int32)  : ∀ x, f_X8_goal h a0 a1 = some x → tkM E yX8_goal cX8_goal 2 (some .int) 0 tkF [.int a0, .int a1] h (some (.int x.1)) x.2 := fun x hx => tkM_of (by decide) (Nat.le_of_ble_eq_true rfl) (fun _ hR G => w_X8_goal hR G h a0 a1  x hx)
set_option maxRecDepth 100000 in
set_option maxHeartbeats 4000000 in
theorem w_X8_heapRefusal {E : tkE} {X : tkX} (hR : x_R X = tkR 0) (G : tkG E X cX8_heapRefusal 2 RX8 (some .int)) (h : tkH) (a0 : Nat) (a1 : Int32) (k0 : kd a0 = 11) : tkS E X 2 0 0 (tkZi E X) 0 [(0, .ref (e_ad E a0)), (1, .int a1)] [] h (f_X8_heapRefusal h a0 a1) := by
  unfold f_X8_heapRefusal
  refine s_v (fun _ k => tk_iload_n G dX8_heapRefusal_0 1 rfl (tk_aload_n G dX8_heapRefusal_1 0 rfl (tk_gr G kX8 dX8_heapRefusal_2 wF_X8_10 k0 gR_8_0 (tk_gi G kX0 dX8_heapRefusal_5 wF_X8_64 (kF_8_0 k0) gI_0_0 (tk_iushr G dX8_heapRefusal_8 k))))) ?_
  refine s_if_eq (tgt := 15) G dX8_heapRefusal_9 (by decide) (fun q9 => ?_) (fun q9 => ?_)
  ·
    refine s_v (fun _ k => tk_iload_n G dX8_heapRefusal_15 1 rfl k) ?_
    refine s_if_ne (tgt := 24) G dX8_heapRefusal_16 (by decide) (fun q16 => ?_) (fun q16 => ?_)
    ·
      refine s_v (fun _ k => tk_ldc G dX8_heapRefusal_19 wK_X8_106 (tk_goto (tgt := 25) G dX8_heapRefusal_21 (by decide) k)) ?_
      exact s_iret G dX8_heapRefusal_25
    ·
      refine s_v (fun _ k => tk_iconst G dX8_heapRefusal_24 cI_0 k) ?_
      exact s_iret G dX8_heapRefusal_25
  ·
    refine s_v (fun _ k => tk_ldc G dX8_heapRefusal_12 wK_X8_59 k) ?_
    exact s_iret G dX8_heapRefusal_14
theorem c_X8_heapRefusal (E : tkE) (h : tkH) (a0 : Nat) (a1 : Int32) (k0 : kd a0 = 11) : ∀ x, f_X8_heapRefusal h a0 a1 = some x → tkM E yX8_heapRefusal cX8_heapRefusal 2 (some .int) 0 tkF [.ref (e_ad E a0), .int a1] h (some (.int x.1)) x.2 := fun x hx => tkM_of (by decide) (Nat.le_of_ble_eq_true rfl) (fun _ hR G => w_X8_heapRefusal hR G h a0 a1 k0 x hx)
set_option maxRecDepth 100000 in
set_option maxHeartbeats 4000000 in
theorem w_X8_isInHeap {E : tkE} {X : tkX} (hR : x_R X = tkR 0) (G : tkG E X cX8_isInHeap 2 RX8 (some .boolean)) (h : tkH) (a0 : Int32) (a1 : Int32)  : tkS E X 2 0 0 (tkZi E X) 0 [(0, .int a0), (1, .int a1)] [] h (f_X8_isInHeap h a0 a1) := by
  unfold f_X8_isInHeap
  refine s_v (fun _ k => tk_iload_n G dX8_isInHeap_0 0 rfl (tk_iload_n G dX8_isInHeap_1 1 rfl (tk_ishr G dX8_isInHeap_2 (tk_iconst G dX8_isInHeap_3 cI_1 (tk_iand G dX8_isInHeap_4 (tk_iconst G dX8_isInHeap_5 cI_1 k)))))) ?_
  refine s_icmp_ne (tgt := 13) G dX8_isInHeap_6 (by decide) (fun q6 => ?_) (fun q6 => ?_)
  ·
    refine s_v (fun _ k => tk_iconst G dX8_isInHeap_9 cI_1 (tk_goto (tgt := 14) G dX8_isInHeap_10 (by decide) k)) ?_
    exact s_zret G dX8_isInHeap_14 (by decide)
  ·
    refine s_v (fun _ k => tk_iconst G dX8_isInHeap_13 cI_0 k) ?_
    exact s_zret G dX8_isInHeap_14 (by decide)
theorem c_X8_isInHeap (E : tkE) (h : tkH) (a0 : Int32) (a1 : Int32)  : ∀ x, f_X8_isInHeap h a0 a1 = some x → tkM E yX8_isInHeap cX8_isInHeap 2 (some .boolean) 0 tkF [.int a0, .int a1] h (some (.int x.1)) x.2 := fun x hx => tkM_of (by decide) (Nat.le_of_ble_eq_true rfl) (fun _ hR G => w_X8_isInHeap hR G h a0 a1  x hx)
set_option maxRecDepth 100000 in
set_option maxHeartbeats 4000000 in
theorem w_X8_isUnder {E : tkE} {X : tkX} (hR : x_R X = tkR 0) (G : tkG E X cX8_isUnder 2 RX8 (some .boolean)) (h : tkH) (a0 : Int32) (a1 : Int32)  : tkS E X 2 0 0 (tkZi E X) 0 [(0, .int a0), (1, .int a1)] [] h (f_X8_isUnder h a0 a1) := by
  unfold f_X8_isUnder
  refine s_v (fun _ k => tk_iload_n G dX8_isUnder_0 0 rfl (tk_iload_n G dX8_isUnder_1 1 rfl k)) ?_
  refine s_icmp_eq (tgt := 19) G dX8_isUnder_2 (by decide) (fun q2 => ?_) (fun q2 => ?_)
  ·
    refine s_v (fun _ k => tk_iconst G dX8_isUnder_19 cI_1 (tk_goto (tgt := 24) G dX8_isUnder_20 (by decide) k)) ?_
    exact s_zret G dX8_isUnder_24 (by decide)
  ·
    refine s_v (fun _ k => tk_iload_n G dX8_isUnder_5 1 rfl k) ?_
    refine s_if_eq (tgt := 19) G dX8_isUnder_6 (by decide) (fun q6 => ?_) (fun q6 => ?_)
    ·
      refine s_v (fun _ k => tk_iconst G dX8_isUnder_19 cI_1 (tk_goto (tgt := 24) G dX8_isUnder_20 (by decide) k)) ?_
      exact s_zret G dX8_isUnder_24 (by decide)
    ·
      refine s_v (fun _ k => tk_iload_n G dX8_isUnder_9 0 rfl (tk_iconst G dX8_isUnder_10 cI_3 k)) ?_
      refine s_icmp_ne (tgt := 23) G dX8_isUnder_11 (by decide) (fun q11 => ?_) (fun q11 => ?_)
      ·
        refine s_v (fun _ k => tk_iload_n G dX8_isUnder_14 1 rfl (tk_iconst G dX8_isUnder_15 cI_1 k)) ?_
        refine s_icmp_ne (tgt := 23) G dX8_isUnder_16 (by decide) (fun q16 => ?_) (fun q16 => ?_)
        ·
          refine s_v (fun _ k => tk_iconst G dX8_isUnder_19 cI_1 (tk_goto (tgt := 24) G dX8_isUnder_20 (by decide) k)) ?_
          exact s_zret G dX8_isUnder_24 (by decide)
        ·
          refine s_v (fun _ k => tk_iconst G dX8_isUnder_23 cI_0 k) ?_
          exact s_zret G dX8_isUnder_24 (by decide)
      ·
        refine s_v (fun _ k => tk_iconst G dX8_isUnder_23 cI_0 k) ?_
        exact s_zret G dX8_isUnder_24 (by decide)
theorem c_X8_isUnder (E : tkE) (h : tkH) (a0 : Int32) (a1 : Int32)  : ∀ x, f_X8_isUnder h a0 a1 = some x → tkM E yX8_isUnder cX8_isUnder 2 (some .boolean) 0 tkF [.int a0, .int a1] h (some (.int x.1)) x.2 := fun x hx => tkM_of (by decide) (Nat.le_of_ble_eq_true rfl) (fun _ hR G => w_X8_isUnder hR G h a0 a1  x hx)
set_option maxRecDepth 100000 in
set_option maxHeartbeats 4000000 in
theorem w_X8_isWithin {E : tkE} {X : tkX} (hR : x_R X = tkR 0) (G : tkG E X cX8_isWithin 2 RX8 (some .boolean)) (h : tkH) (a0 : Int32) (a1 : Int32)  : tkS E X 2 0 0 (tkZi E X) 0 [(0, .int a0), (1, .int a1)] [] h (f_X8_isWithin h a0 a1) := by
  unfold f_X8_isWithin
  refine s_v (fun _ k => tk_iload_n G dX8_isWithin_0 0 rfl k) ?_
  refine s_if_lt (tgt := 13) G dX8_isWithin_1 (by decide) (fun q1 => ?_) (fun q1 => ?_)
  ·
    refine s_v (fun _ k => tk_iconst G dX8_isWithin_13 cI_0 k) ?_
    exact s_zret G dX8_isWithin_14 (by decide)
  ·
    refine s_v (fun _ k => tk_iload_n G dX8_isWithin_4 0 rfl (tk_iload_n G dX8_isWithin_5 1 rfl k)) ?_
    refine s_icmp_ge (tgt := 13) G dX8_isWithin_6 (by decide) (fun q6 => ?_) (fun q6 => ?_)
    ·
      refine s_v (fun _ k => tk_iconst G dX8_isWithin_13 cI_0 k) ?_
      exact s_zret G dX8_isWithin_14 (by decide)
    ·
      refine s_v (fun _ k => tk_iconst G dX8_isWithin_9 cI_1 (tk_goto (tgt := 14) G dX8_isWithin_10 (by decide) k)) ?_
      exact s_zret G dX8_isWithin_14 (by decide)
theorem c_X8_isWithin (E : tkE) (h : tkH) (a0 : Int32) (a1 : Int32)  : ∀ x, f_X8_isWithin h a0 a1 = some x → tkM E yX8_isWithin cX8_isWithin 2 (some .boolean) 0 tkF [.int a0, .int a1] h (some (.int x.1)) x.2 := fun x hx => tkM_of (by decide) (Nat.le_of_ble_eq_true rfl) (fun _ hR G => w_X8_isWithin hR G h a0 a1  x hx)
set_option maxRecDepth 100000 in
set_option maxHeartbeats 4000000 in
theorem w_X8_motifOf {E : tkE} {X : tkX} (hR : x_R X = tkR 0) (G : tkG E X cX8_motifOf 1 RX8 (some .int)) (h : tkH) (a0 : Int32)  : tkS E X 1 0 0 (tkZi E X) 0 [(0, .int a0)] [] h (f_X8_motifOf h a0) := by
  unfold f_X8_motifOf
  refine s_v (fun _ k => tk_iload_n G dX8_motifOf_0 0 rfl (tk_iconst G dX8_motifOf_1 cI_4 (tk_ishr G dX8_motifOf_2 k))) ?_
  exact s_iret G dX8_motifOf_3
theorem c_X8_motifOf (E : tkE) (h : tkH) (a0 : Int32)  : ∀ x, f_X8_motifOf h a0 = some x → tkM E yX8_motifOf cX8_motifOf 1 (some .int) 0 tkF [.int a0] h (some (.int x.1)) x.2 := fun x hx => tkM_of (by decide) (Nat.le_of_ble_eq_true rfl) (fun _ hR G => w_X8_motifOf hR G h a0  x hx)
set_option maxRecDepth 100000 in
set_option maxHeartbeats 4000000 in
theorem w_X8_packed {E : tkE} {X : tkX} (hR : x_R X = tkR 0) (G : tkG E X cX8_packed 3 RX8 (some .int)) (h : tkH) (a0 : Int32) (a1 : Int32) (a2 : Int32)  : tkS E X 3 0 0 (tkZi E X) 0 [(0, .int a0), (1, .int a1), (2, .int a2)] [] h (f_X8_packed h a0 a1 a2) := by
  unfold f_X8_packed
  refine s_v (fun _ k => tk_iload_n G dX8_packed_0 0 rfl (tk_iconst G dX8_packed_1 cI_4 (tk_ishl G dX8_packed_2 (tk_iload_n G dX8_packed_3 1 rfl (tk_iconst G dX8_packed_4 cI_2 (tk_ishl G dX8_packed_5 (tk_ior G dX8_packed_6 (tk_iload_n G dX8_packed_7 2 rfl (tk_ior G dX8_packed_8 k))))))))) ?_
  exact s_iret G dX8_packed_9
theorem c_X8_packed (E : tkE) (h : tkH) (a0 : Int32) (a1 : Int32) (a2 : Int32)  : ∀ x, f_X8_packed h a0 a1 a2 = some x → tkM E yX8_packed cX8_packed 3 (some .int) 0 tkF [.int a0, .int a1, .int a2] h (some (.int x.1)) x.2 := fun x hx => tkM_of (by decide) (Nat.le_of_ble_eq_true rfl) (fun _ hR G => w_X8_packed hR G h a0 a1 a2  x hx)
set_option maxRecDepth 100000 in
set_option maxHeartbeats 4000000 in
theorem w_X8_whoOf {E : tkE} {X : tkX} (hR : x_R X = tkR 0) (G : tkG E X cX8_whoOf 1 RX8 (some .int)) (h : tkH) (a0 : Int32)  : tkS E X 1 0 0 (tkZi E X) 0 [(0, .int a0)] [] h (f_X8_whoOf h a0) := by
  unfold f_X8_whoOf
  refine s_v (fun _ k => tk_iload_n G dX8_whoOf_0 0 rfl (tk_bipush G dX8_whoOf_1 cB_12 (tk_iand G dX8_whoOf_3 (tk_iconst G dX8_whoOf_4 cI_2 (tk_ishr G dX8_whoOf_5 k))))) ?_
  exact s_iret G dX8_whoOf_6
theorem c_X8_whoOf (E : tkE) (h : tkH) (a0 : Int32)  : ∀ x, f_X8_whoOf h a0 = some x → tkM E yX8_whoOf cX8_whoOf 1 (some .int) 0 tkF [.int a0] h (some (.int x.1)) x.2 := fun x hx => tkM_of (by decide) (Nat.le_of_ble_eq_true rfl) (fun _ hR G => w_X8_whoOf hR G h a0  x hx)
set_option maxRecDepth 100000 in
set_option maxHeartbeats 4000000 in
theorem w_X8_whomOf {E : tkE} {X : tkX} (hR : x_R X = tkR 0) (G : tkG E X cX8_whomOf 1 RX8 (some .int)) (h : tkH) (a0 : Int32)  : tkS E X 1 0 0 (tkZi E X) 0 [(0, .int a0)] [] h (f_X8_whomOf h a0) := by
  unfold f_X8_whomOf
  refine s_v (fun _ k => tk_iload_n G dX8_whomOf_0 0 rfl (tk_iconst G dX8_whomOf_1 cI_3 (tk_iand G dX8_whomOf_2 k))) ?_
  exact s_iret G dX8_whomOf_3
theorem c_X8_whomOf (E : tkE) (h : tkH) (a0 : Int32)  : ∀ x, f_X8_whomOf h a0 = some x → tkM E yX8_whomOf cX8_whomOf 1 (some .int) 0 tkF [.int a0] h (some (.int x.1)) x.2 := fun x hx => tkM_of (by decide) (Nat.le_of_ble_eq_true rfl) (fun _ hR G => w_X8_whomOf hR G h a0  x hx)
set_option maxRecDepth 100000 in
set_option maxHeartbeats 4000000 in
theorem w_X9_carry {E : tkE} {X : tkX} (hR : x_R X = tkR 0) (G : tkG E X cX9_carry 9 RX9 none) (h : tkH) (a0 : Nat) (a1 : Int32) (k0 : kd a0 = 12) : tkS E X 9 0 0 (tkZv E X) 0 [(0, .ref (e_ad E a0)), (1, .int a1)] [] h (f_X9_carry h a0 a1) := by
  unfold f_X9_carry
  refine s_v (fun _ k => tk_aload_n G dX9_carry_0 0 rfl (tk_gr G kX9 dX9_carry_1 wF_X9_25 k0 gR_9_7 (tk_astore_n (al' := [(2, .ref (e_ad E (fld a0 7))), (0, .ref (e_ad E a0)), (1, .int a1)]) G dX9_carry_4 (by decide) rfl (tk_iload_n G dX9_carry_5 2 rfl (tk_istore_n (al' := [(3, .int a1), (2, .ref (e_ad E (fld a0 7))), (0, .ref (e_ad E a0)), (1, .int a1)]) G dX9_carry_6 (by decide) rfl (tk_bipush G dX9_carry_7 cB_6 (tk_istore (al' := [(4, .int 6), (3, .int a1), (2, .ref (e_ad E (fld a0 7))), (0, .ref (e_ad E a0)), (1, .int a1)]) G dX9_carry_9 (by decide) rfl (tk_iconst G dX9_carry_11 cI_0 (tk_istore (al' := [(5, .int 0), (4, .int 6), (3, .int a1), (2, .ref (e_ad E (fld a0 7))), (0, .ref (e_ad E a0)), (1, .int a1)]) G dX9_carry_12 (by decide) rfl (tk_iconst G dX9_carry_14 cI_0 (tk_istore (al' := [(6, .int 0), (5, .int 0), (4, .int 6), (3, .int a1), (2, .ref (e_ad E (fld a0 7))), (0, .ref (e_ad E a0)), (1, .int a1)]) G dX9_carry_15 (by decide) rfl k))))))))))) ?_
  refine s_sub [4, 3, 2, 1, 0] (al' := [(2, .ref (e_ad E (fld a0 7))), (3, .int a1), (4, .int 6), (5, .int 0), (6, .int 0)]) rfl ?_
  unfold f_X9_carry_L17
  refine s_lp4 (al := fun y17_3 y17_4 y17_5 y17_6 => [(2, .ref (e_ad E (fld a0 7))), (3, .int y17_3), (4, .int y17_4), (5, .int y17_5), (6, .int y17_6)]) (fun kk17 hL17 g17 y17_3 y17_4 y17_5 y17_6 => ?_) _ _ _ _ _ _
  refine s_v (fun _ k => tk_iload G dX9_carry_17 4 rfl (tk_iconst G dX9_carry_19 cI_4 k)) ?_
  refine s_icmp_ge (tgt := 120) G dX9_carry_20 (by decide) (fun q20 => ?_) (fun q20 => ?_)
  ·
    exact s_vret G dX9_carry_120
  ·
    refine s_v (fun _ k => tk_iload_n G dX9_carry_23 1 rfl (tk_iload G dX9_carry_24 2 rfl k)) ?_
    refine s_idiv G dX9_carry_26 (fun v26 => ?_)
    refine s_v (fun _ k => tk_istore (al' := [(7, .int v26), (2, .ref (e_ad E (fld a0 7))), (3, .int y17_3), (4, .int y17_4), (5, .int y17_5), (6, .int y17_6)]) G dX9_carry_27 (by decide) rfl (tk_iload_n G dX9_carry_29 2 rfl (tk_iload G dX9_carry_30 3 rfl k))) ?_
    refine s_irem G dX9_carry_32 (fun v32 => ?_)
    refine s_v (fun _ k => tk_istore_n (al' := [(3, .int v32), (7, .int v26), (2, .ref (e_ad E (fld a0 7))), (4, .int y17_4), (5, .int y17_5), (6, .int y17_6)]) G dX9_carry_33 (by decide) rfl (tk_iload G dX9_carry_34 5 rfl (tk_iconst G dX9_carry_36 cI_2 k))) ?_
    have hJ51 : ∀ (g51 : tkH) (t51_0 : Int32), tkS E X 9 0 0 (tkZv E X) 51 [(2, .ref (e_ad E (fld a0 7))), (3, .int v32), (5, .int y17_5), (6, .int y17_6), (7, .int v26)] [.int t51_0] g51 (f_X9_carry_J51 y17_5 a0 y17_6 kk17 v32 v26 g51 t51_0) := by
      intro g51 t51_0
      unfold f_X9_carry_J51
      refine s_v (fun _ k => tk_istore (al' := [(4, .int t51_0), (2, .ref (e_ad E (fld a0 7))), (3, .int v32), (5, .int y17_5), (6, .int y17_6), (7, .int v26)]) G dX9_carry_51 (by decide) rfl (tk_iconst G dX9_carry_53 cI_0 (tk_istore (al' := [(8, .int 0), (4, .int t51_0), (2, .ref (e_ad E (fld a0 7))), (3, .int v32), (5, .int y17_5), (6, .int y17_6), (7, .int v26)]) G dX9_carry_54 (by decide) rfl k))) ?_
      have hX99 : ∀ (gz99 : tkH) (z99_8 : Int32), tkS E X 9 0 0 (tkZv E X) 99 [(2, .ref (e_ad E (fld a0 7))), (3, .int v32), (4, .int t51_0), (5, .int y17_5), (6, .int y17_6), (8, .int z99_8)] [] gz99 ((wrI gz99 (fld a0 7) y17_6 z99_8).bind fun h113 => kk17 h113 v32 t51_0 (y17_5 ||| (1 <<< (z99_8 &&& 31))) (y17_6 + 1)) := by
        intro gz99 z99_8
        refine s_v (fun _ k => tk_iload G dX9_carry_99 3 rfl (tk_iconst G dX9_carry_101 cI_1 (tk_iload G dX9_carry_102 5 rfl (tk_ishl G dX9_carry_104 (tk_ior G dX9_carry_105 (tk_istore (al' := [(5, .int (y17_5 ||| (1 <<< (z99_8 &&& 31)))), (2, .ref (e_ad E (fld a0 7))), (3, .int v32), (4, .int t51_0), (6, .int y17_6), (8, .int z99_8)]) G dX9_carry_106 (by decide) rfl (tk_aload_n G dX9_carry_108 1 rfl (tk_iload G dX9_carry_109 4 rfl (tk_iload G dX9_carry_111 5 rfl k))))))))) ?_
        refine s_iast G dX9_carry_113 (kF_9_7 k0) (fun h113 => ?_)
        refine s_v (fun _ k => tk_iinc (al' := [(6, .int (y17_6 + 1)), (5, .int (y17_5 ||| (1 <<< (z99_8 &&& 31)))), (2, .ref (e_ad E (fld a0 7))), (3, .int v32), (4, .int t51_0), (8, .int z99_8)]) G dX9_carry_114 4 rfl (ci_1 _) (by decide) rfl (tk_goto (tgt := 17) G dX9_carry_117 (by decide) k)) ?_
        refine s_sub [2, 3, 4, 1, 0] (al' := [(2, .ref (e_ad E (fld a0 7))), (3, .int v32), (4, .int t51_0), (5, .int (y17_5 ||| (1 <<< (z99_8 &&& 31)))), (6, .int (y17_6 + 1))]) rfl ?_
        exact hL17 _ _ _ _ _
      refine s_sub [2, 3, 1, 4, 5, 6, 0] (al' := [(2, .ref (e_ad E (fld a0 7))), (3, .int v32), (4, .int t51_0), (5, .int y17_5), (6, .int y17_6), (7, .int v26), (8, .int 0)]) rfl ?_
      unfold f_X9_carry_L56
      refine s_lp2 (al := fun y56_7 y56_8 => [(2, .ref (e_ad E (fld a0 7))), (3, .int v32), (4, .int t51_0), (5, .int y17_5), (6, .int y17_6), (7, .int y56_7), (8, .int y56_8)]) (fun kk56 hL56 g56 y56_7 y56_8 => ?_) _ _ _ _
      refine s_v (fun _ k => tk_iload G dX9_carry_56 3 rfl (tk_iload G dX9_carry_58 6 rfl (tk_ishr G dX9_carry_60 (tk_iconst G dX9_carry_61 cI_1 (tk_iand G dX9_carry_62 (tk_iconst G dX9_carry_63 cI_1 k)))))) ?_
      have hJ72 : ∀ (g72 : tkH), tkS E X 9 0 0 (tkZv E X) 72 [(2, .ref (e_ad E (fld a0 7))), (3, .int v32), (4, .int t51_0), (5, .int y17_5), (6, .int y17_6), (7, .int y56_7), (8, .int y56_8)] [] g72 (f_X9_carry_J72 y17_5 y56_8 kk56 y56_7 g72) := by
        intro g72
        unfold f_X9_carry_J72
        refine s_v (fun _ k => tk_iload G dX9_carry_72 5 rfl (tk_iload G dX9_carry_74 3 rfl (tk_iload G dX9_carry_76 6 rfl (tk_ishr G dX9_carry_78 (tk_iconst G dX9_carry_79 cI_1 (tk_iand G dX9_carry_80 (tk_iconst G dX9_carry_81 cI_1 k))))))) ?_
        refine s_icmp_ne (tgt := 89) G dX9_carry_82 (by decide) (fun q82 => ?_) (fun q82 => ?_)
        ·
          refine s_v (fun _ k => tk_iconst G dX9_carry_85 cI_0 (tk_goto (tgt := 90) G dX9_carry_86 (by decide) k)) ?_
          refine s_v (fun _ k => tk_isub G dX9_carry_90 (tk_istore (al' := [(7, .int (y56_7 - 0)), (2, .ref (e_ad E (fld a0 7))), (3, .int v32), (4, .int t51_0), (5, .int y17_5), (6, .int y17_6), (8, .int y56_8)]) G dX9_carry_91 (by decide) rfl (tk_iinc (al' := [(8, .int (y56_8 + 1)), (7, .int (y56_7 - 0)), (2, .ref (e_ad E (fld a0 7))), (3, .int v32), (4, .int t51_0), (5, .int y17_5), (6, .int y17_6)]) G dX9_carry_93 6 rfl (ci_1 _) (by decide) rfl (tk_goto (tgt := 56) G dX9_carry_96 (by decide) k)))) ?_
          refine s_sub [2, 3, 4, 5, 6, 1, 0] (al' := [(2, .ref (e_ad E (fld a0 7))), (3, .int v32), (4, .int t51_0), (5, .int y17_5), (6, .int y17_6), (7, .int (y56_7 - 0)), (8, .int (y56_8 + 1))]) rfl ?_
          exact hL56 _ _ _
        ·
          refine s_v (fun _ k => tk_iconst G dX9_carry_89 cI_1 (tk_isub G dX9_carry_90 (tk_istore (al' := [(7, .int (y56_7 - 1)), (2, .ref (e_ad E (fld a0 7))), (3, .int v32), (4, .int t51_0), (5, .int y17_5), (6, .int y17_6), (8, .int y56_8)]) G dX9_carry_91 (by decide) rfl (tk_iinc (al' := [(8, .int (y56_8 + 1)), (7, .int (y56_7 - 1)), (2, .ref (e_ad E (fld a0 7))), (3, .int v32), (4, .int t51_0), (5, .int y17_5), (6, .int y17_6)]) G dX9_carry_93 6 rfl (ci_1 _) (by decide) rfl (tk_goto (tgt := 56) G dX9_carry_96 (by decide) k))))) ?_
          refine s_sub [2, 3, 4, 5, 6, 1, 0] (al' := [(2, .ref (e_ad E (fld a0 7))), (3, .int v32), (4, .int t51_0), (5, .int y17_5), (6, .int y17_6), (7, .int (y56_7 - 1)), (8, .int (y56_8 + 1))]) rfl ?_
          exact hL56 _ _ _
      refine s_icmp_eq (tgt := 72) G dX9_carry_64 (by decide) (fun q64 => ?_) (fun q64 => ?_)
      ·
        exact hJ72 _
      ·
        refine s_v (fun _ k => tk_iload G dX9_carry_67 5 rfl k) ?_
        refine s_if_le (tgt := 99) G dX9_carry_69 (by decide) (fun q69 => ?_) (fun q69 => ?_)
        ·
          refine s_sub [0, 1, 2, 3, 4, 6] (al' := [(2, .ref (e_ad E (fld a0 7))), (3, .int v32), (4, .int t51_0), (5, .int y17_5), (6, .int y17_6), (8, .int y56_8)]) rfl ?_
          exact hX99 _ _
        ·
          exact hJ72 _
    refine s_icmp_ge (tgt := 50) G dX9_carry_37 (by decide) (fun q37 => ?_) (fun q37 => ?_)
    ·
      refine s_v (fun _ k => tk_iconst G dX9_carry_50 cI_1 k) ?_
      refine s_sub [2, 0, 4, 5, 1] (al' := [(2, .ref (e_ad E (fld a0 7))), (3, .int v32), (5, .int y17_5), (6, .int y17_6), (7, .int v26)]) rfl ?_
      exact hJ51 _ _
    ·
      refine s_v (fun _ k => tk_iload G dX9_carry_40 3 rfl (tk_iconst G dX9_carry_42 cI_3 (tk_iload G dX9_carry_43 5 rfl (tk_isub G dX9_carry_45 k)))) ?_
      refine s_idiv G dX9_carry_46 (fun v46 => ?_)
      refine s_v (fun _ k => tk_goto (tgt := 51) G dX9_carry_47 (by decide) k) ?_
      refine s_sub [2, 0, 4, 5, 1] (al' := [(2, .ref (e_ad E (fld a0 7))), (3, .int v32), (5, .int y17_5), (6, .int y17_6), (7, .int v26)]) rfl ?_
      exact hJ51 _ _
theorem c_X9_carry (E : tkE) (h : tkH) (a0 : Nat) (a1 : Int32) (k0 : kd a0 = 12) : ∀ x, f_X9_carry h a0 a1 = some x → tkM E yX9_carry cX9_carry 9 none 0 tkF [.ref (e_ad E a0), .int a1] h none x := fun x hx => tkM_of (by decide) (Nat.le_of_ble_eq_true rfl) (fun _ hR G => w_X9_carry hR G h a0 a1 k0 x hx)
set_option maxRecDepth 100000 in
set_option maxHeartbeats 4000000 in
theorem w_X9_endCost {E : tkE} {X : tkX} (hR : x_R X = tkR 0) (G : tkG E X cX9_endCost 3 RX9 (some .int)) (h : tkH) (a0 : Nat) (a1 : Int32) (a2 : Int32) (k0 : kd a0 = 12) : tkS E X 3 0 0 (tkZi E X) 0 [(0, .ref (e_ad E a0)), (1, .int a1), (2, .int a2)] [] h (f_X9_endCost h a0 a1 a2) := by
  unfold f_X9_endCost
  refine s_v (fun _ k => tk_aload_n G dX9_endCost_0 0 rfl (tk_gr G kX9 dX9_endCost_1 wF_X9_9 k0 gR_9_0 (tk_iconst G dX9_endCost_4 cI_3 k))) ?_
  refine s_iald G dX9_endCost_5 (kF_9_0 k0) (fun v5 => ?_)
  refine s_v (fun _ k => tk_aload_n G dX9_endCost_6 0 rfl (tk_gi G kX9 dX9_endCost_7 wF_X9_133 k0 gI_9_15 k)) ?_
  have hJ23 : ∀ (g23 : tkH) (t23_0 : Int32), tkS E X 3 0 0 (tkZi E X) 23 [(0, .ref (e_ad E a0)), (2, .int a2)] [.int t23_0, .int v5] g23 (f_X9_endCost_J23 a0 v5 a2 g23 t23_0) := by
    intro g23 t23_0
    unfold f_X9_endCost_J23
    refine s_v (fun _ k => tk_aload_n G dX9_endCost_23 0 rfl (tk_gi G kX9 dX9_endCost_24 wF_X9_116 k0 gI_9_11 k)) ?_
    have hJ40 : ∀ (g40 : tkH) (t40_0 : Int32), tkS E X 3 0 0 (tkZi E X) 40 [] [.int t40_0, .int t23_0, .int v5] g40 (f_X9_endCost_J40 v5 t23_0 g40 t40_0) := by
      intro g40 t40_0
      unfold f_X9_endCost_J40
      refine s_v (fun _ k => tk_iadd G dX9_endCost_40 (tk_imul G dX9_endCost_41 k)) ?_
      exact s_iret G dX9_endCost_42
    refine s_if_eq (tgt := 34) G dX9_endCost_27 (by decide) (fun q27 => ?_) (fun q27 => ?_)
    ·
      refine s_v (fun _ k => tk_aload_n G dX9_endCost_34 0 rfl (tk_gi G kX9 dX9_endCost_35 wF_X9_130 k0 gI_9_14 (tk_iload_n G dX9_endCost_38 1 rfl (tk_isub G dX9_endCost_39 k)))) ?_
      refine s_sub [] (al' := []) rfl ?_
      exact hJ40 _ _
    ·
      refine s_v (fun _ k => tk_iconst G dX9_endCost_30 cI_0 (tk_goto (tgt := 40) G dX9_endCost_31 (by decide) k)) ?_
      refine s_sub [] (al' := []) rfl ?_
      exact hJ40 _ _
  refine s_if_eq (tgt := 17) G dX9_endCost_10 (by decide) (fun q10 => ?_) (fun q10 => ?_)
  ·
    refine s_v (fun _ k => tk_aload_n G dX9_endCost_17 0 rfl (tk_gi G kX9 dX9_endCost_18 wF_X9_110 k0 gI_9_10 (tk_iload_n G dX9_endCost_21 1 rfl (tk_isub G dX9_endCost_22 k)))) ?_
    refine s_sub [0, 2] (al' := [(0, .ref (e_ad E a0)), (2, .int a2)]) rfl ?_
    exact hJ23 _ _
  ·
    refine s_v (fun _ k => tk_iconst G dX9_endCost_13 cI_0 (tk_goto (tgt := 23) G dX9_endCost_14 (by decide) k)) ?_
    refine s_sub [0, 2] (al' := [(0, .ref (e_ad E a0)), (2, .int a2)]) rfl ?_
    exact hJ23 _ _
theorem c_X9_endCost (E : tkE) (h : tkH) (a0 : Nat) (a1 : Int32) (a2 : Int32) (k0 : kd a0 = 12) : ∀ x, f_X9_endCost h a0 a1 a2 = some x → tkM E yX9_endCost cX9_endCost 3 (some .int) 0 tkF [.ref (e_ad E a0), .int a1, .int a2] h (some (.int x.1)) x.2 := fun x hx => tkM_of (by decide) (Nat.le_of_ble_eq_true rfl) (fun _ hR G => w_X9_endCost hR G h a0 a1 a2 k0 x hx)
set_option maxRecDepth 100000 in
set_option maxHeartbeats 4000000 in
theorem w_X9_finding {E : tkE} {X : tkX} (hR : x_R X = tkR 0) (G : tkG E X cX9_finding 2 RX9 (some .int)) (h : tkH) (a0 : Nat) (a1 : Int32) (k0 : kd a0 = 12) : tkS E X 2 0 0 (tkZi E X) 0 [(0, .ref (e_ad E a0)), (1, .int a1)] [] h (f_X9_finding h a0 a1) := by
  unfold f_X9_finding
  refine s_v (fun _ k => tk_aload_n G dX9_finding_0 0 rfl (tk_dup G dX9_finding_1 rfl (tk_gi G kX9 dX9_finding_2 wF_X9_46 k0 gI_9_3 (tk_iconst G dX9_finding_5 cI_1 (tk_iadd G dX9_finding_6 (tk_pi G kX9 dX9_finding_7 wF_X9_46 k0 gP_9_3 (tk_iload_n G dX9_finding_10 1 rfl k))))))) ?_
  exact s_iret G dX9_finding_11
theorem c_X9_finding (E : tkE) (h : tkH) (a0 : Nat) (a1 : Int32) (k0 : kd a0 = 12) : ∀ x, f_X9_finding h a0 a1 = some x → tkM E yX9_finding cX9_finding 2 (some .int) 0 tkF [.ref (e_ad E a0), .int a1] h (some (.int x.1)) x.2 := fun x hx => tkM_of (by decide) (Nat.le_of_ble_eq_true rfl) (fun _ hR G => w_X9_finding hR G h a0 a1 k0 x hx)
set_option maxRecDepth 100000 in
set_option maxHeartbeats 4000000 in
theorem w_X9_isCut {E : tkE} {X : tkX} (hR : x_R X = tkR 0) (G : tkG E X cX9_isCut 2 RX9 (some .boolean)) (h : tkH) (a0 : Nat) (a1 : Int32) (k0 : kd a0 = 12) : tkS E X 2 0 0 (tkZi E X) 0 [(0, .ref (e_ad E a0)), (1, .int a1)] [] h (f_X9_isCut h a0 a1) := by
  unfold f_X9_isCut
  refine s_v (fun _ k => tk_aload_n G dX9_isCut_0 0 rfl (tk_gr G kX9 dX9_isCut_1 wF_X9_9 k0 gR_9_0 (tk_bipush G dX9_isCut_4 cB_40 (tk_iload_n G dX9_isCut_6 1 rfl (tk_iadd G dX9_isCut_7 k))))) ?_
  refine s_iald G dX9_isCut_8 (kF_9_0 k0) (fun v8 => ?_)
  refine s_v (fun _ k => tk_iconst G dX9_isCut_9 cI_2 k) ?_
  refine s_icmp_ne (tgt := 30) G dX9_isCut_10 (by decide) (fun q10 => ?_) (fun q10 => ?_)
  ·
    refine s_v (fun _ k => tk_aload_n G dX9_isCut_13 0 rfl (tk_gr G kX9 dX9_isCut_14 wF_X9_9 k0 gR_9_0 (tk_bipush G dX9_isCut_17 cB_70 (tk_iload_n G dX9_isCut_19 1 rfl (tk_iadd G dX9_isCut_20 k))))) ?_
    refine s_iald G dX9_isCut_21 (kF_9_0 k0) (fun v21 => ?_)
    refine s_v (fun _ k => tk_iconst G dX9_isCut_22 cI_1 k) ?_
    refine s_icmp_le (tgt := 30) G dX9_isCut_23 (by decide) (fun q23 => ?_) (fun q23 => ?_)
    ·
      refine s_v (fun _ k => tk_iconst G dX9_isCut_30 cI_0 k) ?_
      exact s_zret G dX9_isCut_31 (by decide)
    ·
      refine s_v (fun _ k => tk_iconst G dX9_isCut_26 cI_1 (tk_goto (tgt := 31) G dX9_isCut_27 (by decide) k)) ?_
      exact s_zret G dX9_isCut_31 (by decide)
  ·
    refine s_v (fun _ k => tk_iconst G dX9_isCut_30 cI_0 k) ?_
    exact s_zret G dX9_isCut_31 (by decide)
theorem c_X9_isCut (E : tkE) (h : tkH) (a0 : Nat) (a1 : Int32) (k0 : kd a0 = 12) : ∀ x, f_X9_isCut h a0 a1 = some x → tkM E yX9_isCut cX9_isCut 2 (some .boolean) 0 tkF [.ref (e_ad E a0), .int a1] h (some (.int x.1)) x.2 := fun x hx => tkM_of (by decide) (Nat.le_of_ble_eq_true rfl) (fun _ hR G => w_X9_isCut hR G h a0 a1 k0 x hx)
set_option maxRecDepth 100000 in
set_option maxHeartbeats 4000000 in
theorem w_X9_isTorn {E : tkE} {X : tkX} (hR : x_R X = tkR 0) (G : tkG E X cX9_isTorn 2 RX9 (some .boolean)) (h : tkH) (a0 : Nat) (a1 : Int32) (k0 : kd a0 = 12) : tkS E X 2 0 0 (tkZi E X) 0 [(0, .ref (e_ad E a0)), (1, .int a1)] [] h (f_X9_isTorn h a0 a1) := by
  unfold f_X9_isTorn
  refine s_v (fun _ k => tk_aload_n G dX9_isTorn_0 0 rfl (tk_gr G kX9 dX9_isTorn_1 wF_X9_9 k0 gR_9_0 (tk_bipush G dX9_isTorn_4 cB_40 (tk_iload_n G dX9_isTorn_6 1 rfl (tk_iadd G dX9_isTorn_7 k))))) ?_
  refine s_iald G dX9_isTorn_8 (kF_9_0 k0) (fun v8 => ?_)
  refine s_v (fun _ k => tk_iconst G dX9_isTorn_9 cI_1 k) ?_
  refine s_icmp_eq (tgt := 26) G dX9_isTorn_10 (by decide) (fun q10 => ?_) (fun q10 => ?_)
  ·
    refine s_v (fun _ k => tk_iconst G dX9_isTorn_26 cI_1 (tk_goto (tgt := 31) G dX9_isTorn_27 (by decide) k)) ?_
    exact s_zret G dX9_isTorn_31 (by decide)
  ·
    refine s_v (fun _ k => tk_aload_n G dX9_isTorn_13 0 rfl (tk_gr G kX9 dX9_isTorn_14 wF_X9_9 k0 gR_9_0 (tk_bipush G dX9_isTorn_17 cB_40 (tk_iload_n G dX9_isTorn_19 1 rfl (tk_iadd G dX9_isTorn_20 k))))) ?_
    refine s_iald G dX9_isTorn_21 (kF_9_0 k0) (fun v21 => ?_)
    refine s_v (fun _ k => tk_iconst G dX9_isTorn_22 cI_3 k) ?_
    refine s_icmp_ne (tgt := 30) G dX9_isTorn_23 (by decide) (fun q23 => ?_) (fun q23 => ?_)
    ·
      refine s_v (fun _ k => tk_iconst G dX9_isTorn_26 cI_1 (tk_goto (tgt := 31) G dX9_isTorn_27 (by decide) k)) ?_
      exact s_zret G dX9_isTorn_31 (by decide)
    ·
      refine s_v (fun _ k => tk_iconst G dX9_isTorn_30 cI_0 k) ?_
      exact s_zret G dX9_isTorn_31 (by decide)
theorem c_X9_isTorn (E : tkE) (h : tkH) (a0 : Nat) (a1 : Int32) (k0 : kd a0 = 12) : ∀ x, f_X9_isTorn h a0 a1 = some x → tkM E yX9_isTorn cX9_isTorn 2 (some .boolean) 0 tkF [.ref (e_ad E a0), .int a1] h (some (.int x.1)) x.2 := fun x hx => tkM_of (by decide) (Nat.le_of_ble_eq_true rfl) (fun _ hR G => w_X9_isTorn hR G h a0 a1 k0 x hx)
set_option maxRecDepth 100000 in
set_option maxHeartbeats 4000000 in
theorem w_X9_keep {E : tkE} {X : tkX} (hR : x_R X = tkR 0) (G : tkG E X cX9_keep 2 RX9 none) (h : tkH) (a0 : Nat) (k0 : kd a0 = 12) : tkS E X 2 0 0 (tkZv E X) 0 [(0, .ref (e_ad E a0))] [] h (f_X9_keep h a0) := by
  unfold f_X9_keep
  refine s_v (fun _ k => tk_aload_n G dX9_keep_0 0 rfl (tk_gi G kX9 dX9_keep_1 wF_X9_54 k0 gI_9_2 (tk_bipush G dX9_keep_4 cB_20 k))) ?_
  have hJ50 : ∀ (g50 : tkH), tkS E X 2 0 0 (tkZv E X) 50 [(0, .ref (e_ad E a0))] [] g50 (f_X9_keep_J50 a0 g50) := by
    intro g50
    unfold f_X9_keep_J50
    refine s_v (fun _ k => tk_iconst G dX9_keep_50 cI_0 (tk_istore_n (al' := [(1, .int 0), (0, .ref (e_ad E a0))]) G dX9_keep_51 (by decide) rfl k)) ?_
    have hX86 : ∀ (gz86 : tkH), tkS E X 2 0 0 (tkZv E X) 86 [(0, .ref (e_ad E a0))] [] gz86 (some (tkup gz86 a0 2 ((gz86 a0 2) + 1))) := by
      intro gz86
      refine s_v (fun _ k => tk_aload_n G dX9_keep_86 0 rfl (tk_dup G dX9_keep_87 rfl (tk_gi G kX9 dX9_keep_88 wF_X9_54 k0 gI_9_2 (tk_iconst G dX9_keep_91 cI_1 (tk_iadd G dX9_keep_92 (tk_pi G kX9 dX9_keep_93 wF_X9_54 k0 gP_9_2 k)))))) ?_
      exact s_vret G dX9_keep_96
    refine s_sub [1, 0] (al' := [(0, .ref (e_ad E a0)), (1, .int 0)]) rfl ?_
    unfold f_X9_keep_L52
    refine s_lp1 (al := fun y52_1 => [(0, .ref (e_ad E a0)), (1, .int y52_1)]) (fun kk52 hL52 g52 y52_1 => ?_) _ _ _
    refine s_v (fun _ k => tk_iload_n G dX9_keep_52 1 rfl (tk_sipush G dX9_keep_53 cS_390 k)) ?_
    refine s_icmp_ge (tgt := 86) G dX9_keep_56 (by decide) (fun q56 => ?_) (fun q56 => ?_)
    ·
      refine s_sub [0] (al' := [(0, .ref (e_ad E a0))]) rfl ?_
      exact hX86 _
    ·
      refine s_v (fun _ k => tk_aload_n G dX9_keep_59 0 rfl (tk_gr G kX9 dX9_keep_60 wF_X9_13 k0 gR_9_1 (tk_aload_n G dX9_keep_63 0 rfl (tk_gi G kX9 dX9_keep_64 wF_X9_54 k0 gI_9_2 (tk_sipush G dX9_keep_67 cS_390 (tk_imul G dX9_keep_70 (tk_iload_n G dX9_keep_71 1 rfl (tk_iadd G dX9_keep_72 (tk_aload_n G dX9_keep_73 0 rfl (tk_gr G kX9 dX9_keep_74 wF_X9_9 k0 gR_9_0 (tk_iload_n G dX9_keep_77 1 rfl k))))))))))) ?_
      refine s_iald G dX9_keep_78 (kF_9_0 k0) (fun v78 => ?_)
      refine s_iast G dX9_keep_79 (kF_9_1 k0) (fun h79 => ?_)
      refine s_v (fun _ k => tk_iinc (al' := [(1, .int (y52_1 + 1)), (0, .ref (e_ad E a0))]) G dX9_keep_80 1 rfl (ci_1 _) (by decide) rfl (tk_goto (tgt := 52) G dX9_keep_83 (by decide) k)) ?_
      refine s_sub [1, 0] (al' := [(0, .ref (e_ad E a0)), (1, .int (y52_1 + 1))]) rfl ?_
      exact hL52 _ _
  refine s_icmp_ne (tgt := 50) G dX9_keep_6 (by decide) (fun q6 => ?_) (fun q6 => ?_)
  ·
    refine s_v (fun _ k => tk_iconst G dX9_keep_9 cI_0 (tk_istore_n (al' := [(1, .int 0), (0, .ref (e_ad E a0))]) G dX9_keep_10 (by decide) rfl k)) ?_
    have hX40 : ∀ (gz40 : tkH), tkS E X 2 0 0 (tkZv E X) 40 [(0, .ref (e_ad E a0))] [] gz40 (f_X9_keep_J50 a0 (tkup gz40 a0 2 ((gz40 a0 2) - 1))) := by
      intro gz40
      refine s_v (fun _ k => tk_aload_n G dX9_keep_40 0 rfl (tk_dup G dX9_keep_41 rfl (tk_gi G kX9 dX9_keep_42 wF_X9_54 k0 gI_9_2 (tk_iconst G dX9_keep_45 cI_1 (tk_isub G dX9_keep_46 (tk_pi G kX9 dX9_keep_47 wF_X9_54 k0 gP_9_2 k)))))) ?_
      exact hJ50 _
    refine s_sub [1, 0] (al' := [(0, .ref (e_ad E a0)), (1, .int 0)]) rfl ?_
    unfold f_X9_keep_L11
    refine s_lp1 (al := fun y11_1 => [(0, .ref (e_ad E a0)), (1, .int y11_1)]) (fun kk11 hL11 g11 y11_1 => ?_) _ _ _
    refine s_v (fun _ k => tk_iload_n G dX9_keep_11 1 rfl (tk_sipush G dX9_keep_12 cS_7410 k)) ?_
    refine s_icmp_ge (tgt := 40) G dX9_keep_15 (by decide) (fun q15 => ?_) (fun q15 => ?_)
    ·
      refine s_sub [0] (al' := [(0, .ref (e_ad E a0))]) rfl ?_
      exact hX40 _
    ·
      refine s_v (fun _ k => tk_aload_n G dX9_keep_18 0 rfl (tk_gr G kX9 dX9_keep_19 wF_X9_13 k0 gR_9_1 (tk_iload_n G dX9_keep_22 1 rfl (tk_aload_n G dX9_keep_23 0 rfl (tk_gr G kX9 dX9_keep_24 wF_X9_13 k0 gR_9_1 (tk_iload_n G dX9_keep_27 1 rfl (tk_sipush G dX9_keep_28 cS_390 (tk_iadd G dX9_keep_31 k)))))))) ?_
      refine s_iald G dX9_keep_32 (kF_9_1 k0) (fun v32 => ?_)
      refine s_iast G dX9_keep_33 (kF_9_1 k0) (fun h33 => ?_)
      refine s_v (fun _ k => tk_iinc (al' := [(1, .int (y11_1 + 1)), (0, .ref (e_ad E a0))]) G dX9_keep_34 1 rfl (ci_1 _) (by decide) rfl (tk_goto (tgt := 11) G dX9_keep_37 (by decide) k)) ?_
      refine s_sub [1, 0] (al' := [(0, .ref (e_ad E a0)), (1, .int (y11_1 + 1))]) rfl ?_
      exact hL11 _ _
  ·
    exact hJ50 _
theorem c_X9_keep (E : tkE) (h : tkH) (a0 : Nat) (k0 : kd a0 = 12) : ∀ x, f_X9_keep h a0 = some x → tkM E yX9_keep cX9_keep 2 none 0 tkF [.ref (e_ad E a0)] h none x := fun x hx => tkM_of (by decide) (Nat.le_of_ble_eq_true rfl) (fun _ hR G => w_X9_keep hR G h a0 k0 x hx)
set_option maxRecDepth 100000 in
set_option maxHeartbeats 4000000 in
theorem w_X9_nextBranch {E : tkE} {X : tkX} (hR : x_R X = tkR 0) (G : tkG E X cX9_nextBranch 5 RX9 (some .int)) (h : tkH) (a0 : Nat) (k0 : kd a0 = 12) : tkS E X 5 0 0 (tkZi E X) 0 [(0, .ref (e_ad E a0))] [] h (f_X9_nextBranch h a0) := by
  unfold f_X9_nextBranch
  refine s_v (fun _ k => tk_iconst G dX9_nextBranch_0 cI_m1 (tk_istore_n (al' := [(1, .int (-1)), (0, .ref (e_ad E a0))]) G dX9_nextBranch_1 (by decide) rfl (tk_iconst G dX9_nextBranch_2 cI_0 (tk_istore_n (al' := [(2, .int 0), (1, .int (-1)), (0, .ref (e_ad E a0))]) G dX9_nextBranch_3 (by decide) rfl k)))) ?_
  refine s_sub [2, 1, 0] (al' := [(0, .ref (e_ad E a0)), (1, .int (-1)), (2, .int 0)]) rfl ?_
  unfold f_X9_nextBranch_L4
  refine s_lp2 (al := fun y4_1 y4_2 => [(0, .ref (e_ad E a0)), (1, .int y4_1), (2, .int y4_2)]) (fun kk4 hL4 g4 y4_1 y4_2 => ?_) _ _ _ _
  refine s_v (fun _ k => tk_iload_n G dX9_nextBranch_4 2 rfl (tk_aload_n G dX9_nextBranch_5 0 rfl (tk_gr G kX9 dX9_nextBranch_6 wF_X9_9 k0 gR_9_0 (tk_iconst G dX9_nextBranch_9 cI_0 k)))) ?_
  refine s_iald G dX9_nextBranch_10 (kF_9_0 k0) (fun v10 => ?_)
  refine s_icmp_ge (tgt := 100) G dX9_nextBranch_11 (by decide) (fun q11 => ?_) (fun q11 => ?_)
  ·
    refine s_v (fun _ k => tk_iload_n G dX9_nextBranch_100 1 rfl k) ?_
    exact s_iret G dX9_nextBranch_101
  ·
    refine s_v (fun _ k => tk_iload_n G dX9_nextBranch_14 2 rfl (tk_iconst G dX9_nextBranch_15 cI_1 (tk_iadd G dX9_nextBranch_16 (tk_istore_n (al' := [(3, .int (y4_2 + 1)), (0, .ref (e_ad E a0)), (1, .int y4_1), (2, .int y4_2)]) G dX9_nextBranch_17 (by decide) rfl k)))) ?_
    have hX94 : ∀ (gz94 : tkH) (z94_1 : Int32), tkS E X 5 0 0 (tkZi E X) 94 [(0, .ref (e_ad E a0)), (1, .int z94_1), (2, .int y4_2)] [] gz94 (kk4 gz94 z94_1 (y4_2 + 1)) := by
      intro gz94 z94_1
      refine s_v (fun _ k => tk_iinc (al' := [(2, .int (y4_2 + 1)), (0, .ref (e_ad E a0)), (1, .int z94_1)]) G dX9_nextBranch_94 2 rfl (ci_1 _) (by decide) rfl (tk_goto (tgt := 4) G dX9_nextBranch_97 (by decide) k)) ?_
      refine s_sub [1, 2, 0] (al' := [(0, .ref (e_ad E a0)), (1, .int z94_1), (2, .int (y4_2 + 1))]) rfl ?_
      exact hL4 _ _ _
    refine s_sub [1, 2, 3, 0] (al' := [(0, .ref (e_ad E a0)), (1, .int y4_1), (2, .int y4_2), (3, .int (y4_2 + 1))]) rfl ?_
    unfold f_X9_nextBranch_L18
    refine s_lp2 (al := fun y18_1 y18_3 => [(0, .ref (e_ad E a0)), (1, .int y18_1), (2, .int y4_2), (3, .int y18_3)]) (fun kk18 hL18 g18 y18_1 y18_3 => ?_) _ _ _ _
    refine s_v (fun _ k => tk_iload_n G dX9_nextBranch_18 3 rfl (tk_aload_n G dX9_nextBranch_19 0 rfl (tk_gr G kX9 dX9_nextBranch_20 wF_X9_9 k0 gR_9_0 (tk_iconst G dX9_nextBranch_23 cI_0 k)))) ?_
    refine s_iald G dX9_nextBranch_24 (kF_9_0 k0) (fun v24 => ?_)
    refine s_icmp_ge (tgt := 94) G dX9_nextBranch_25 (by decide) (fun q25 => ?_) (fun q25 => ?_)
    ·
      refine s_sub [0, 1, 2] (al' := [(0, .ref (e_ad E a0)), (1, .int y18_1), (2, .int y4_2)]) rfl ?_
      exact hX94 _ _
    ·
      refine s_v (fun _ k => tk_bipush G dX9_nextBranch_28 cB_10 (tk_iload_n G dX9_nextBranch_30 2 rfl (tk_imul G dX9_nextBranch_31 (tk_iload_n G dX9_nextBranch_32 3 rfl (tk_iadd G dX9_nextBranch_33 (tk_istore (al' := [(4, .int ((10 * y4_2) + y18_3)), (0, .ref (e_ad E a0)), (1, .int y18_1), (2, .int y4_2), (3, .int y18_3)]) G dX9_nextBranch_34 (by decide) rfl (tk_aload_n G dX9_nextBranch_36 1 rfl (tk_gr G kX9 dX9_nextBranch_37 wF_X9_34 k0 gR_9_20 (tk_iload G dX9_nextBranch_40 0 rfl k))))))))) ?_
      refine s_iald G dX9_nextBranch_42 (kF_9_20 k0) (fun v42 => ?_)
      refine s_if_lt (tgt := 86) G dX9_nextBranch_43 (by decide) (fun q43 => ?_) (fun q43 => ?_)
      ·
        refine s_v (fun _ k => tk_iload_n G dX9_nextBranch_86 2 rfl (tk_istore_n (al' := [(1, .int y18_1), (4, .int ((10 * y4_2) + y18_3)), (0, .ref (e_ad E a0)), (2, .int y4_2), (3, .int y18_3)]) G dX9_nextBranch_87 (by decide) rfl (tk_iinc (al' := [(3, .int (y18_3 + 1)), (1, .int y18_1), (4, .int ((10 * y4_2) + y18_3)), (0, .ref (e_ad E a0)), (2, .int y4_2)]) G dX9_nextBranch_88 4 rfl (ci_1 _) (by decide) rfl (tk_goto (tgt := 18) G dX9_nextBranch_91 (by decide) k)))) ?_
        refine s_sub [3, 1, 4, 0] (al' := [(0, .ref (e_ad E a0)), (1, .int y18_1), (2, .int y4_2), (3, .int (y18_3 + 1))]) rfl ?_
        exact hL18 _ _ _
      ·
        refine s_v (fun _ k => tk_aload_n G dX9_nextBranch_46 1 rfl (tk_gr G kX9 dX9_nextBranch_47 wF_X9_37 k0 gR_9_21 (tk_iload_n G dX9_nextBranch_50 3 rfl k))) ?_
        refine s_iald G dX9_nextBranch_51 (kF_9_21 k0) (fun v51 => ?_)
        refine s_v (fun _ k => tk_aload_n G dX9_nextBranch_52 1 rfl (tk_gr G kX9 dX9_nextBranch_53 wF_X9_37 k0 gR_9_21 (tk_iload_n G dX9_nextBranch_56 4 rfl k))) ?_
        refine s_iald G dX9_nextBranch_57 (kF_9_21 k0) (fun v57 => ?_)
        refine s_icmp_eq (tgt := 86) G dX9_nextBranch_58 (by decide) (fun q58 => ?_) (fun q58 => ?_)
        ·
          refine s_v (fun _ k => tk_iload_n G dX9_nextBranch_86 2 rfl (tk_istore_n (al' := [(1, .int y18_1), (4, .int ((10 * y4_2) + y18_3)), (0, .ref (e_ad E a0)), (2, .int y4_2), (3, .int y18_3)]) G dX9_nextBranch_87 (by decide) rfl (tk_iinc (al' := [(3, .int (y18_3 + 1)), (1, .int y18_1), (4, .int ((10 * y4_2) + y18_3)), (0, .ref (e_ad E a0)), (2, .int y4_2)]) G dX9_nextBranch_88 4 rfl (ci_1 _) (by decide) rfl (tk_goto (tgt := 18) G dX9_nextBranch_91 (by decide) k)))) ?_
          refine s_sub [3, 1, 4, 0] (al' := [(0, .ref (e_ad E a0)), (1, .int y18_1), (2, .int y4_2), (3, .int (y18_3 + 1))]) rfl ?_
          exact hL18 _ _ _
        ·
          refine s_v (fun _ k => tk_iload_n G dX9_nextBranch_61 2 rfl k) ?_
          refine s_if_lt (tgt := 81) G dX9_nextBranch_62 (by decide) (fun q62 => ?_) (fun q62 => ?_)
          ·
            refine s_v (fun _ k => tk_iload G dX9_nextBranch_81 0 rfl (tk_goto (tgt := 87) G dX9_nextBranch_83 (by decide) k)) ?_
            refine s_v (fun _ k => tk_istore_n (al' := [(1, .int ((10 * y4_2) + y18_3)), (4, .int ((10 * y4_2) + y18_3)), (0, .ref (e_ad E a0)), (2, .int y4_2), (3, .int y18_3)]) G dX9_nextBranch_87 (by decide) rfl (tk_iinc (al' := [(3, .int (y18_3 + 1)), (1, .int ((10 * y4_2) + y18_3)), (4, .int ((10 * y4_2) + y18_3)), (0, .ref (e_ad E a0)), (2, .int y4_2)]) G dX9_nextBranch_88 4 rfl (ci_1 _) (by decide) rfl (tk_goto (tgt := 18) G dX9_nextBranch_91 (by decide) k))) ?_
            refine s_sub [3, 1, 4, 0] (al' := [(0, .ref (e_ad E a0)), (1, .int ((10 * y4_2) + y18_3)), (2, .int y4_2), (3, .int (y18_3 + 1))]) rfl ?_
            exact hL18 _ _ _
          ·
            refine s_v (fun _ k => tk_aload_n G dX9_nextBranch_65 1 rfl (tk_gr G kX9 dX9_nextBranch_66 wF_X9_34 k0 gR_9_20 (tk_iload G dX9_nextBranch_69 0 rfl k))) ?_
            refine s_iald G dX9_nextBranch_71 (kF_9_20 k0) (fun v71 => ?_)
            refine s_v (fun _ k => tk_aload_n G dX9_nextBranch_72 1 rfl (tk_gr G kX9 dX9_nextBranch_73 wF_X9_34 k0 gR_9_20 (tk_iload_n G dX9_nextBranch_76 2 rfl k))) ?_
            refine s_iald G dX9_nextBranch_77 (kF_9_20 k0) (fun v77 => ?_)
            refine s_icmp_ge (tgt := 86) G dX9_nextBranch_78 (by decide) (fun q78 => ?_) (fun q78 => ?_)
            ·
              refine s_v (fun _ k => tk_iload_n G dX9_nextBranch_86 2 rfl (tk_istore_n (al' := [(1, .int y18_1), (4, .int ((10 * y4_2) + y18_3)), (0, .ref (e_ad E a0)), (2, .int y4_2), (3, .int y18_3)]) G dX9_nextBranch_87 (by decide) rfl (tk_iinc (al' := [(3, .int (y18_3 + 1)), (1, .int y18_1), (4, .int ((10 * y4_2) + y18_3)), (0, .ref (e_ad E a0)), (2, .int y4_2)]) G dX9_nextBranch_88 4 rfl (ci_1 _) (by decide) rfl (tk_goto (tgt := 18) G dX9_nextBranch_91 (by decide) k)))) ?_
              refine s_sub [3, 1, 4, 0] (al' := [(0, .ref (e_ad E a0)), (1, .int y18_1), (2, .int y4_2), (3, .int (y18_3 + 1))]) rfl ?_
              exact hL18 _ _ _
            ·
              refine s_v (fun _ k => tk_iload G dX9_nextBranch_81 0 rfl (tk_goto (tgt := 87) G dX9_nextBranch_83 (by decide) k)) ?_
              refine s_v (fun _ k => tk_istore_n (al' := [(1, .int ((10 * y4_2) + y18_3)), (4, .int ((10 * y4_2) + y18_3)), (0, .ref (e_ad E a0)), (2, .int y4_2), (3, .int y18_3)]) G dX9_nextBranch_87 (by decide) rfl (tk_iinc (al' := [(3, .int (y18_3 + 1)), (1, .int ((10 * y4_2) + y18_3)), (4, .int ((10 * y4_2) + y18_3)), (0, .ref (e_ad E a0)), (2, .int y4_2)]) G dX9_nextBranch_88 4 rfl (ci_1 _) (by decide) rfl (tk_goto (tgt := 18) G dX9_nextBranch_91 (by decide) k))) ?_
              refine s_sub [3, 1, 4, 0] (al' := [(0, .ref (e_ad E a0)), (1, .int ((10 * y4_2) + y18_3)), (2, .int y4_2), (3, .int (y18_3 + 1))]) rfl ?_
              exact hL18 _ _ _
theorem c_X9_nextBranch (E : tkE) (h : tkH) (a0 : Nat) (k0 : kd a0 = 12) : ∀ x, f_X9_nextBranch h a0 = some x → tkM E yX9_nextBranch cX9_nextBranch 5 (some .int) 0 tkF [.ref (e_ad E a0)] h (some (.int x.1)) x.2 := fun x hx => tkM_of (by decide) (Nat.le_of_ble_eq_true rfl) (fun _ hR G => w_X9_nextBranch hR G h a0 k0 x hx)
set_option maxRecDepth 100000 in
set_option maxHeartbeats 4000000 in
theorem w_X9_pairsLeft {E : tkE} {X : tkX} (hR : x_R X = tkR 0) (G : tkG E X cX9_pairsLeft 3 RX9 (some .int)) (h : tkH) (a0 : Nat) (a1 : Int32) (a2 : Int32) (k0 : kd a0 = 12) : tkS E X 3 0 0 (tkZi E X) 0 [(0, .ref (e_ad E a0)), (1, .int a1), (2, .int a2)] [] h (f_X9_pairsLeft h a0 a1 a2) := by
  unfold f_X9_pairsLeft
  refine s_v (fun _ k => tk_aload_n G dX9_pairsLeft_0 0 rfl (tk_gr G kX9 dX9_pairsLeft_1 wF_X9_28 k0 gR_9_16 (tk_bipush G dX9_pairsLeft_4 cB_11 (tk_iload_n G dX9_pairsLeft_6 1 rfl (tk_imul G dX9_pairsLeft_7 (tk_iload_n G dX9_pairsLeft_8 2 rfl (tk_iadd G dX9_pairsLeft_9 k))))))) ?_
  refine s_iald G dX9_pairsLeft_10 (kF_9_16 k0) (fun v10 => ?_)
  exact s_iret G dX9_pairsLeft_11
theorem c_X9_pairsLeft (E : tkE) (h : tkH) (a0 : Nat) (a1 : Int32) (a2 : Int32) (k0 : kd a0 = 12) : ∀ x, f_X9_pairsLeft h a0 a1 a2 = some x → tkM E yX9_pairsLeft cX9_pairsLeft 3 (some .int) 0 tkF [.ref (e_ad E a0), .int a1, .int a2] h (some (.int x.1)) x.2 := fun x hx => tkM_of (by decide) (Nat.le_of_ble_eq_true rfl) (fun _ hR G => w_X9_pairsLeft hR G h a0 a1 a2 k0 x hx)
set_option maxRecDepth 100000 in
set_option maxHeartbeats 4000000 in
theorem w_X9_setStep {E : tkE} {X : tkX} (hR : x_R X = tkR 0) (G : tkG E X cX9_setStep 7 RX9 none) (h : tkH) (a0 : Nat) (a1 : Int32) (a2 : Int32) (a3 : Int32) (a4 : Int32) (a5 : Int32) (k0 : kd a0 = 12) : tkS E X 7 0 0 (tkZv E X) 0 [(0, .ref (e_ad E a0)), (1, .int a1), (2, .int a2), (3, .int a3), (4, .int a4), (5, .int a5)] [] h (f_X9_setStep h a0 a1 a2 a3 a4 a5) := by
  unfold f_X9_setStep
  refine s_v (fun _ k => tk_bipush G dX9_setStep_0 cB_90 (tk_iconst G dX9_setStep_2 cI_3 (tk_bipush G dX9_setStep_3 cB_10 (tk_iload_n G dX9_setStep_5 1 rfl (tk_imul G dX9_setStep_6 (tk_iload_n G dX9_setStep_7 2 rfl (tk_iadd G dX9_setStep_8 (tk_imul G dX9_setStep_9 (tk_iadd G dX9_setStep_10 (tk_istore (al' := [(6, .int (90 + (3 * ((10 * a1) + a2)))), (0, .ref (e_ad E a0)), (1, .int a1), (2, .int a2), (3, .int a3), (4, .int a4), (5, .int a5)]) G dX9_setStep_11 (by decide) rfl (tk_aload_n G dX9_setStep_13 1 rfl (tk_gr G kX9 dX9_setStep_14 wF_X9_9 k0 gR_9_0 (tk_iload G dX9_setStep_17 0 rfl (tk_iload_n G dX9_setStep_19 4 rfl k)))))))))))))) ?_
  refine s_iast G dX9_setStep_20 (kF_9_0 k0) (fun h20 => ?_)
  refine s_v (fun _ k => tk_aload_n G dX9_setStep_21 1 rfl (tk_gr G kX9 dX9_setStep_22 wF_X9_9 k0 gR_9_0 (tk_iload G dX9_setStep_25 0 rfl (tk_iconst G dX9_setStep_27 cI_1 (tk_iadd G dX9_setStep_28 (tk_iload G dX9_setStep_29 5 rfl k)))))) ?_
  refine s_iast G dX9_setStep_31 (kF_9_0 k0) (fun h31 => ?_)
  refine s_v (fun _ k => tk_aload_n G dX9_setStep_32 1 rfl (tk_gr G kX9 dX9_setStep_33 wF_X9_9 k0 gR_9_0 (tk_iload G dX9_setStep_36 0 rfl (tk_iconst G dX9_setStep_38 cI_2 (tk_iadd G dX9_setStep_39 (tk_iload G dX9_setStep_40 6 rfl k)))))) ?_
  refine s_iast G dX9_setStep_42 (kF_9_0 k0) (fun h42 => ?_)
  exact s_vret G dX9_setStep_43
theorem c_X9_setStep (E : tkE) (h : tkH) (a0 : Nat) (a1 : Int32) (a2 : Int32) (a3 : Int32) (a4 : Int32) (a5 : Int32) (k0 : kd a0 = 12) : ∀ x, f_X9_setStep h a0 a1 a2 a3 a4 a5 = some x → tkM E yX9_setStep cX9_setStep 7 none 0 tkF [.ref (e_ad E a0), .int a1, .int a2, .int a3, .int a4, .int a5] h none x := fun x hx => tkM_of (by decide) (Nat.le_of_ble_eq_true rfl) (fun _ hR G => w_X9_setStep hR G h a0 a1 a2 a3 a4 a5 k0 x hx)
set_option maxRecDepth 100000 in
set_option maxHeartbeats 4000000 in
theorem w_X9_stepOf {E : tkE} {X : tkX} (hR : x_R X = tkR 0) (G : tkG E X cX9_stepOf 4 RX9 (some .int)) (h : tkH) (a0 : Nat) (a1 : Int32) (a2 : Int32) (a3 : Int32) (k0 : kd a0 = 12) : tkS E X 4 0 0 (tkZi E X) 0 [(0, .ref (e_ad E a0)), (1, .int a1), (2, .int a2), (3, .int a3)] [] h (f_X9_stepOf h a0 a1 a2 a3) := by
  unfold f_X9_stepOf
  refine s_v (fun _ k => tk_aload_n G dX9_stepOf_0 0 rfl (tk_gr G kX9 dX9_stepOf_1 wF_X9_9 k0 gR_9_0 (tk_bipush G dX9_stepOf_4 cB_90 (tk_iconst G dX9_stepOf_6 cI_3 (tk_bipush G dX9_stepOf_7 cB_10 (tk_iload_n G dX9_stepOf_9 1 rfl (tk_imul G dX9_stepOf_10 (tk_iload_n G dX9_stepOf_11 2 rfl (tk_iadd G dX9_stepOf_12 (tk_imul G dX9_stepOf_13 (tk_iadd G dX9_stepOf_14 (tk_iload_n G dX9_stepOf_15 3 rfl (tk_iadd G dX9_stepOf_16 k))))))))))))) ?_
  refine s_iald G dX9_stepOf_17 (kF_9_0 k0) (fun v17 => ?_)
  exact s_iret G dX9_stepOf_18
theorem c_X9_stepOf (E : tkE) (h : tkH) (a0 : Nat) (a1 : Int32) (a2 : Int32) (a3 : Int32) (k0 : kd a0 = 12) : ∀ x, f_X9_stepOf h a0 a1 a2 a3 = some x → tkM E yX9_stepOf cX9_stepOf 4 (some .int) 0 tkF [.ref (e_ad E a0), .int a1, .int a2, .int a3] h (some (.int x.1)) x.2 := fun x hx => tkM_of (by decide) (Nat.le_of_ble_eq_true rfl) (fun _ hR G => w_X9_stepOf hR G h a0 a1 a2 a3 k0 x hx)
set_option maxRecDepth 100000 in
set_option maxHeartbeats 4000000 in
theorem w_X9_within {E : tkE} {X : tkX} (hR : x_R X = tkR 0) (G : tkG E X cX9_within 3 RX9 (some .boolean)) (h : tkH) (a0 : Int32) (a1 : Int32) (a2 : Int32)  : tkS E X 3 0 0 (tkZi E X) 0 [(0, .int a0), (1, .int a1), (2, .int a2)] [] h (f_X9_within h a0 a1 a2) := by
  unfold f_X9_within
  refine s_v (fun _ k => tk_iload_n G dX9_within_0 0 rfl (tk_iload_n G dX9_within_1 1 rfl k)) ?_
  refine s_icmp_lt (tgt := 14) G dX9_within_2 (by decide) (fun q2 => ?_) (fun q2 => ?_)
  ·
    refine s_v (fun _ k => tk_iconst G dX9_within_14 cI_0 k) ?_
    exact s_zret G dX9_within_15 (by decide)
  ·
    refine s_v (fun _ k => tk_iload_n G dX9_within_5 0 rfl (tk_iload_n G dX9_within_6 2 rfl k)) ?_
    refine s_icmp_gt (tgt := 14) G dX9_within_7 (by decide) (fun q7 => ?_) (fun q7 => ?_)
    ·
      refine s_v (fun _ k => tk_iconst G dX9_within_14 cI_0 k) ?_
      exact s_zret G dX9_within_15 (by decide)
    ·
      refine s_v (fun _ k => tk_iconst G dX9_within_10 cI_1 (tk_goto (tgt := 15) G dX9_within_11 (by decide) k)) ?_
      exact s_zret G dX9_within_15 (by decide)
theorem c_X9_within (E : tkE) (h : tkH) (a0 : Int32) (a1 : Int32) (a2 : Int32)  : ∀ x, f_X9_within h a0 a1 a2 = some x → tkM E yX9_within cX9_within 3 (some .boolean) 0 tkF [.int a0, .int a1, .int a2] h (some (.int x.1)) x.2 := fun x hx => tkM_of (by decide) (Nat.le_of_ble_eq_true rfl) (fun _ hR G => w_X9_within hR G h a0 a1 a2  x hx)
set_option maxRecDepth 100000 in
set_option maxHeartbeats 4000000 in
theorem w_X0_changeMotif {E : tkE} {X : tkX} (hR : x_R X = tkR 1) (G : tkG E X cX0_changeMotif 7 RX0 (some .int)) (h : tkH) (a0 : Nat) (a1 : Int32) (a2 : Int32) (k0 : kd a0 = 3) : tkS E X 7 0 0 (tkZi E X) 0 [(0, .ref (e_ad E a0)), (1, .int a1), (2, .int a2)] [] h (f_X0_changeMotif h a0 a1 a2) := by
  unfold f_X0_changeMotif
  refine s_v (fun _ k => tk_iconst G dX0_changeMotif_0 cI_0 (tk_istore_n (al' := [(3, .int 0), (0, .ref (e_ad E a0)), (1, .int a1), (2, .int a2)]) G dX0_changeMotif_1 (by decide) rfl (tk_iconst G dX0_changeMotif_2 cI_0 (tk_istore (al' := [(4, .int 0), (3, .int 0), (0, .ref (e_ad E a0)), (1, .int a1), (2, .int a2)]) G dX0_changeMotif_3 (by decide) rfl k)))) ?_
  refine s_sub [2, 3, 4, 1, 0] (al' := [(0, .ref (e_ad E a0)), (1, .int a1), (2, .int a2), (3, .int 0), (4, .int 0)]) rfl ?_
  unfold f_X0_changeMotif_L5
  refine s_lp2 (al := fun y5_3 y5_4 => [(0, .ref (e_ad E a0)), (1, .int a1), (2, .int a2), (3, .int y5_3), (4, .int y5_4)]) (fun kk5 hL5 g5 y5_3 y5_4 => ?_) _ _ _ _
  refine s_v (fun _ k => tk_iload G dX0_changeMotif_5 4 rfl (tk_aload_n G dX0_changeMotif_7 0 rfl (tk_gi G kX0 dX0_changeMotif_8 wF_X0_36 k0 gI_0_0 k))) ?_
  refine s_icmp_ge (tgt := 90) G dX0_changeMotif_11 (by decide) (fun q11 => ?_) (fun q11 => ?_)
  ·
    refine s_v (fun _ k => tk_iload_n G dX0_changeMotif_90 3 rfl k) ?_
    exact s_iret G dX0_changeMotif_91
  ·
    refine s_v (fun _ k => tk_iconst G dX0_changeMotif_14 cI_0 (tk_istore (al' := [(5, .int 0), (0, .ref (e_ad E a0)), (1, .int a1), (2, .int a2), (3, .int y5_3), (4, .int y5_4)]) G dX0_changeMotif_15 (by decide) rfl k)) ?_
    have hX84 : ∀ (gz84 : tkH) (z84_3 : Int32), tkS E X 7 0 0 (tkZi E X) 84 [(0, .ref (e_ad E a0)), (1, .int a1), (2, .int a2), (3, .int z84_3), (4, .int y5_4)] [] gz84 (kk5 gz84 z84_3 (y5_4 + 1)) := by
      intro gz84 z84_3
      refine s_v (fun _ k => tk_iinc (al' := [(4, .int (y5_4 + 1)), (0, .ref (e_ad E a0)), (1, .int a1), (2, .int a2), (3, .int z84_3)]) G dX0_changeMotif_84 4 rfl (ci_1 _) (by decide) rfl (tk_goto (tgt := 5) G dX0_changeMotif_87 (by decide) k)) ?_
      refine s_sub [1, 2, 3, 4, 0] (al' := [(0, .ref (e_ad E a0)), (1, .int a1), (2, .int a2), (3, .int z84_3), (4, .int (y5_4 + 1))]) rfl ?_
      exact hL5 _ _ _
    refine s_sub [1, 2, 3, 4, 5, 0] (al' := [(0, .ref (e_ad E a0)), (1, .int a1), (2, .int a2), (3, .int y5_3), (4, .int y5_4), (5, .int 0)]) rfl ?_
    unfold f_X0_changeMotif_L17
    refine s_lp2 (al := fun y17_3 y17_5 => [(0, .ref (e_ad E a0)), (1, .int a1), (2, .int a2), (3, .int y17_3), (4, .int y5_4), (5, .int y17_5)]) (fun kk17 hL17 g17 y17_3 y17_5 => ?_) _ _ _ _
    refine s_v (fun _ k => tk_iload G dX0_changeMotif_17 5 rfl (tk_aload_n G dX0_changeMotif_19 0 rfl (tk_gr G kX0 dX0_changeMotif_20 wF_X0_24 k0 gR_0_5 (tk_iload G dX0_changeMotif_23 4 rfl k)))) ?_
    refine s_iald G dX0_changeMotif_25 (kF_0_5 k0) (fun v25 => ?_)
    refine s_icmp_ge (tgt := 84) G dX0_changeMotif_26 (by decide) (fun q26 => ?_) (fun q26 => ?_)
    ·
      refine s_sub [0, 1, 2, 3, 4] (al' := [(0, .ref (e_ad E a0)), (1, .int a1), (2, .int a2), (3, .int y17_3), (4, .int y5_4)]) rfl ?_
      exact hX84 _ _
    ·
      refine s_v (fun _ k => tk_aload_n G dX0_changeMotif_29 0 rfl (tk_iload G dX0_changeMotif_30 4 rfl (tk_iload G dX0_changeMotif_32 5 rfl k))) ?_
      refine s_callVI (As := [.int y5_4, .int y17_5]) G dX0_changeMotif_34 wY_X0_stepAt wM_X0_54 wI_X0_stepAt wS_X0_stepAt (tk_rm hR (by decide) (by decide)) kX0 k0 (by decide) (c_X0_stepAt E g17 a0 y5_4 y17_5 k0) rfl rfl (Nat.le_of_ble_eq_true rfl) ⟨Nat.zero_le _, Nat.zero_le _⟩ (fun x34 => ?_)
      refine s_v (fun _ k => tk_istore (al' := [(6, .int x34.1), (0, .ref (e_ad E a0)), (1, .int a1), (2, .int a2), (3, .int y17_3), (4, .int y5_4), (5, .int y17_5)]) G dX0_changeMotif_37 (by decide) rfl (tk_iload G dX0_changeMotif_39 0 rfl k)) ?_
      refine s_callSNI (As := [.int x34.1]) G dX0_changeMotif_41 wY_X8_motifOf wM_X0_58 wI_X8_motifOf (tk_rm hR (by decide) (by decide)) (c_X8_motifOf E x34.2 x34.1) rfl rfl (Nat.le_of_ble_eq_true rfl) ⟨Nat.zero_le _, Nat.zero_le _⟩ (fun x41 => ?_)
      refine s_v (fun _ k => tk_iload_n G dX0_changeMotif_44 2 rfl k) ?_
      refine s_icmp_ne (tgt := 78) G dX0_changeMotif_45 (by decide) (fun q45 => ?_) (fun q45 => ?_)
      ·
        refine s_v (fun _ k => tk_aload_n G dX0_changeMotif_48 1 rfl (tk_gr G kX0 dX0_changeMotif_49 wF_X0_27 k0 gR_0_6 (tk_iload G dX0_changeMotif_52 5 rfl (tk_bipush G dX0_changeMotif_54 cB_10 (tk_imul G dX0_changeMotif_56 (tk_iload G dX0_changeMotif_57 6 rfl (tk_iadd G dX0_changeMotif_59 (tk_iload_n G dX0_changeMotif_60 3 rfl (tk_iload G dX0_changeMotif_61 0 rfl k))))))))) ?_
        refine s_callSNI (As := [.int x34.1]) G dX0_changeMotif_63 wY_X8_whoOf wM_X0_62 wI_X8_whoOf (tk_rm hR (by decide) (by decide)) (c_X8_whoOf E x41.2 x34.1) rfl rfl (Nat.le_of_ble_eq_true rfl) ⟨Nat.zero_le _, Nat.zero_le _⟩ (fun x63 => ?_)
        refine s_v (fun _ k => tk_iload G dX0_changeMotif_66 0 rfl k) ?_
        refine s_callSNI (As := [.int x34.1]) G dX0_changeMotif_68 wY_X8_whomOf wM_X0_65 wI_X8_whomOf (tk_rm hR (by decide) (by decide)) (c_X8_whomOf E x63.2 x34.1) rfl rfl (Nat.le_of_ble_eq_true rfl) ⟨Nat.zero_le _, Nat.zero_le _⟩ (fun x68 => ?_)
        refine s_callSNI (As := [.int a2, .int x63.1, .int x68.1]) G dX0_changeMotif_71 wY_X8_packed wM_X0_68 wI_X8_packed (tk_rm hR (by decide) (by decide)) (c_X8_packed E x68.2 a2 x63.1 x68.1) rfl rfl (Nat.le_of_ble_eq_true rfl) ⟨Nat.zero_le _, Nat.zero_le _⟩ (fun x71 => ?_)
        refine s_iast G dX0_changeMotif_74 (kF_0_6 k0) (fun h74 => ?_)
        refine s_v (fun _ k => tk_iinc (al' := [(3, .int (y17_3 + 1)), (6, .int x34.1), (0, .ref (e_ad E a0)), (1, .int a1), (2, .int a2), (4, .int y5_4), (5, .int y17_5)]) G dX0_changeMotif_75 4 rfl (ci_1 _) (by decide) rfl (tk_iinc (al' := [(5, .int (y17_5 + 1)), (3, .int (y17_3 + 1)), (6, .int x34.1), (0, .ref (e_ad E a0)), (1, .int a1), (2, .int a2), (4, .int y5_4)]) G dX0_changeMotif_78 6 rfl (ci_1 _) (by decide) rfl (tk_goto (tgt := 17) G dX0_changeMotif_81 (by decide) k))) ?_
        refine s_sub [3, 4, 5, 1, 6, 0] (al' := [(0, .ref (e_ad E a0)), (1, .int a1), (2, .int a2), (3, .int (y17_3 + 1)), (4, .int y5_4), (5, .int (y17_5 + 1))]) rfl ?_
        exact hL17 _ _ _
      ·
        refine s_v (fun _ k => tk_iinc (al' := [(5, .int (y17_5 + 1)), (6, .int x34.1), (0, .ref (e_ad E a0)), (1, .int a1), (2, .int a2), (3, .int y17_3), (4, .int y5_4)]) G dX0_changeMotif_78 6 rfl (ci_1 _) (by decide) rfl (tk_goto (tgt := 17) G dX0_changeMotif_81 (by decide) k)) ?_
        refine s_sub [2, 3, 4, 5, 6, 0] (al' := [(0, .ref (e_ad E a0)), (1, .int a1), (2, .int a2), (3, .int y17_3), (4, .int y5_4), (5, .int (y17_5 + 1))]) rfl ?_
        exact hL17 _ _ _
theorem c_X0_changeMotif (E : tkE) (h : tkH) (a0 : Nat) (a1 : Int32) (a2 : Int32) (k0 : kd a0 = 3) : ∀ x, f_X0_changeMotif h a0 a1 a2 = some x → tkM E yX0_changeMotif cX0_changeMotif 7 (some .int) 1 tkF [.ref (e_ad E a0), .int a1, .int a2] h (some (.int x.1)) x.2 := fun x hx => tkM_of (by decide) (Nat.le_of_ble_eq_true rfl) (fun _ hR G => w_X0_changeMotif hR G h a0 a1 a2 k0 x hx)
set_option maxRecDepth 100000 in
set_option maxHeartbeats 4000000 in
theorem w_X0_couldReach {E : tkE} {X : tkX} (hR : x_R X = tkR 1) (G : tkG E X cX0_couldReach 4 RX0 (some .boolean)) (h : tkH) (a0 : Nat) (a1 : Int32) (a2 : Int32) (k0 : kd a0 = 3) : tkS E X 4 0 0 (tkZi E X) 0 [(0, .ref (e_ad E a0)), (1, .int a1), (2, .int a2)] [] h (f_X0_couldReach h a0 a1 a2) := by
  unfold f_X0_couldReach
  refine s_v (fun _ k => tk_aload_n G dX0_couldReach_0 0 rfl (tk_aload_n G dX0_couldReach_1 0 rfl (tk_gr G kX0 dX0_couldReach_2 wF_X0_15 k0 gR_0_2 (tk_iload_n G dX0_couldReach_5 1 rfl k)))) ?_
  refine s_iald G dX0_couldReach_6 (kF_0_2 k0) (fun v6 => ?_)
  refine s_v (fun _ k => tk_aload_n G dX0_couldReach_7 0 rfl (tk_gr G kX0 dX0_couldReach_8 wF_X0_15 k0 gR_0_2 (tk_iload_n G dX0_couldReach_11 2 rfl k))) ?_
  refine s_iald G dX0_couldReach_12 (kF_0_2 k0) (fun v12 => ?_)
  refine s_callVI (As := [.int v6, .int v12]) G dX0_couldReach_13 wY_X0_wayBetween wM_X0_78 wI_X0_wayBetween wS_X0_wayBetween (tk_rm hR (by decide) (by decide)) kX0 k0 (by decide) (c_X0_wayBetween E h a0 v6 v12 k0) rfl rfl (Nat.le_of_ble_eq_true rfl) ⟨Nat.zero_le _, Nat.zero_le _⟩ (fun x13 => ?_)
  refine s_v (fun _ k => tk_istore_n (al' := [(3, .int x13.1), (0, .ref (e_ad E a0)), (1, .int a1), (2, .int a2)]) G dX0_couldReach_16 (by decide) rfl (tk_aload_n G dX0_couldReach_17 1 rfl (tk_gr G kX0 dX0_couldReach_18 wF_X0_18 k0 gR_0_3 (tk_iload_n G dX0_couldReach_21 2 rfl k)))) ?_
  refine s_iald G dX0_couldReach_22 (kF_0_3 k0) (fun v22 => ?_)
  refine s_v (fun _ k => tk_aload_n G dX0_couldReach_23 1 rfl (tk_gr G kX0 dX0_couldReach_24 wF_X0_18 k0 gR_0_3 (tk_iload_n G dX0_couldReach_27 3 rfl k))) ?_
  refine s_iald G dX0_couldReach_28 (kF_0_3 k0) (fun v28 => ?_)
  refine s_icmp_ge (tgt := 53) G dX0_couldReach_29 (by decide) (fun q29 => ?_) (fun q29 => ?_)
  ·
    refine s_v (fun _ k => tk_iconst G dX0_couldReach_53 cI_0 k) ?_
    exact s_zret G dX0_couldReach_54 (by decide)
  ·
    refine s_v (fun _ k => tk_aload_n G dX0_couldReach_32 1 rfl (tk_gr G kX0 dX0_couldReach_33 wF_X0_18 k0 gR_0_3 (tk_iload_n G dX0_couldReach_36 2 rfl k))) ?_
    refine s_iald G dX0_couldReach_37 (kF_0_3 k0) (fun v37 => ?_)
    refine s_v (fun _ k => tk_iload_n G dX0_couldReach_38 0 rfl (tk_iadd G dX0_couldReach_39 (tk_aload_n G dX0_couldReach_40 1 rfl (tk_gr G kX0 dX0_couldReach_41 wF_X0_18 k0 gR_0_3 (tk_iload_n G dX0_couldReach_44 3 rfl k))))) ?_
    refine s_iald G dX0_couldReach_45 (kF_0_3 k0) (fun v45 => ?_)
    refine s_icmp_gt (tgt := 53) G dX0_couldReach_46 (by decide) (fun q46 => ?_) (fun q46 => ?_)
    ·
      refine s_v (fun _ k => tk_iconst G dX0_couldReach_53 cI_0 k) ?_
      exact s_zret G dX0_couldReach_54 (by decide)
    ·
      refine s_v (fun _ k => tk_iconst G dX0_couldReach_49 cI_1 (tk_goto (tgt := 54) G dX0_couldReach_50 (by decide) k)) ?_
      exact s_zret G dX0_couldReach_54 (by decide)
theorem c_X0_couldReach (E : tkE) (h : tkH) (a0 : Nat) (a1 : Int32) (a2 : Int32) (k0 : kd a0 = 3) : ∀ x, f_X0_couldReach h a0 a1 a2 = some x → tkM E yX0_couldReach cX0_couldReach 4 (some .boolean) 1 tkF [.ref (e_ad E a0), .int a1, .int a2] h (some (.int x.1)) x.2 := fun x hx => tkM_of (by decide) (Nat.le_of_ble_eq_true rfl) (fun _ hR G => w_X0_couldReach hR G h a0 a1 a2 k0 x hx)
set_option maxRecDepth 100000 in
set_option maxHeartbeats 4000000 in
theorem w_X0_firstLaid {E : tkE} {X : tkX} (hR : x_R X = tkR 1) (G : tkG E X cX0_firstLaid 2 RX0 (some .int)) (h : tkH) (a0 : Nat) (a1 : Int32) (k0 : kd a0 = 3) : tkS E X 2 0 0 (tkZi E X) 0 [(0, .ref (e_ad E a0)), (1, .int a1)] [] h (f_X0_firstLaid h a0 a1) := by
  unfold f_X0_firstLaid
  refine s_v (fun _ k => tk_aload_n G dX0_firstLaid_0 0 rfl (tk_iload_n G dX0_firstLaid_1 1 rfl k)) ?_
  refine s_callVI (As := [.int a1]) G dX0_firstLaid_2 wY_X0_isFramed wM_X0_75 wI_X0_isFramed wS_X0_isFramed (tk_rm hR (by decide) (by decide)) kX0 k0 (by decide) (c_X0_isFramed E h a0 a1 k0) rfl rfl (Nat.le_of_ble_eq_true rfl) ⟨Nat.zero_le _, Nat.zero_le _⟩ (fun x2 => ?_)
  refine s_if_eq (tgt := 12) G dX0_firstLaid_5 (by decide) (fun q5 => ?_) (fun q5 => ?_)
  ·
    refine s_v (fun _ k => tk_iconst G dX0_firstLaid_12 cI_0 k) ?_
    exact s_iret G dX0_firstLaid_13
  ·
    refine s_v (fun _ k => tk_iconst G dX0_firstLaid_8 cI_1 (tk_goto (tgt := 13) G dX0_firstLaid_9 (by decide) k)) ?_
    exact s_iret G dX0_firstLaid_13
theorem c_X0_firstLaid (E : tkE) (h : tkH) (a0 : Nat) (a1 : Int32) (k0 : kd a0 = 3) : ∀ x, f_X0_firstLaid h a0 a1 = some x → tkM E yX0_firstLaid cX0_firstLaid 2 (some .int) 1 tkF [.ref (e_ad E a0), .int a1] h (some (.int x.1)) x.2 := fun x hx => tkM_of (by decide) (Nat.le_of_ble_eq_true rfl) (fun _ hR G => w_X0_firstLaid hR G h a0 a1 k0 x hx)
set_option maxRecDepth 100000 in
set_option maxHeartbeats 4000000 in
theorem w_X0_hasTale {E : tkE} {X : tkX} (hR : x_R X = tkR 1) (G : tkG E X cX0_hasTale 2 RX0 (some .boolean)) (h : tkH) (a0 : Nat) (a1 : Int32) (k0 : kd a0 = 3) : tkS E X 2 0 0 (tkZi E X) 0 [(0, .ref (e_ad E a0)), (1, .int a1)] [] h (f_X0_hasTale h a0 a1) := by
  unfold f_X0_hasTale
  refine s_v (fun _ k => tk_iload_n G dX0_hasTale_0 1 rfl (tk_aload_n G dX0_hasTale_1 0 rfl (tk_gi G kX0 dX0_hasTale_2 wF_X0_36 k0 gI_0_0 k))) ?_
  refine s_callSNI (As := [.int a1, .int (h a0 0)]) G dX0_hasTale_5 wY_X8_isWithin wM_X0_46 wI_X8_isWithin (tk_rm hR (by decide) (by decide)) (c_X8_isWithin E h a1 (h a0 0)) rfl rfl (Nat.le_of_ble_eq_true rfl) ⟨Nat.zero_le _, Nat.zero_le _⟩ (fun x5 => ?_)
  exact s_zretG G dX0_hasTale_8
theorem c_X0_hasTale (E : tkE) (h : tkH) (a0 : Nat) (a1 : Int32) (k0 : kd a0 = 3) : ∀ x, f_X0_hasTale h a0 a1 = some x → tkM E yX0_hasTale cX0_hasTale 2 (some .boolean) 1 tkF [.ref (e_ad E a0), .int a1] h (some (.int x.1)) x.2 := fun x hx => tkM_of (by decide) (Nat.le_of_ble_eq_true rfl) (fun _ hR G => w_X0_hasTale hR G h a0 a1 k0 x hx)
set_option maxRecDepth 100000 in
set_option maxHeartbeats 4000000 in
theorem w_X0_howOften {E : tkE} {X : tkX} (hR : x_R X = tkR 1) (G : tkG E X cX0_howOften 5 RX0 (some .int)) (h : tkH) (a0 : Nat) (a1 : Int32) (a2 : Int32) (k0 : kd a0 = 3) : tkS E X 5 0 0 (tkZi E X) 0 [(0, .ref (e_ad E a0)), (1, .int a1), (2, .int a2)] [] h (f_X0_howOften h a0 a1 a2) := by
  unfold f_X0_howOften
  refine s_v (fun _ k => tk_iconst G dX0_howOften_0 cI_0 (tk_istore_n (al' := [(3, .int 0), (0, .ref (e_ad E a0)), (1, .int a1), (2, .int a2)]) G dX0_howOften_1 (by decide) rfl (tk_iconst G dX0_howOften_2 cI_0 (tk_istore (al' := [(4, .int 0), (3, .int 0), (0, .ref (e_ad E a0)), (1, .int a1), (2, .int a2)]) G dX0_howOften_3 (by decide) rfl k)))) ?_
  refine s_sub [2, 3, 4, 1, 0] (al' := [(0, .ref (e_ad E a0)), (1, .int a1), (2, .int a2), (3, .int 0), (4, .int 0)]) rfl ?_
  unfold f_X0_howOften_L5
  refine s_lp2 (al := fun y5_3 y5_4 => [(0, .ref (e_ad E a0)), (1, .int a1), (2, .int a2), (3, .int y5_3), (4, .int y5_4)]) (fun kk5 hL5 g5 y5_3 y5_4 => ?_) _ _ _ _
  refine s_v (fun _ k => tk_iload G dX0_howOften_5 4 rfl (tk_aload_n G dX0_howOften_7 0 rfl (tk_gr G kX0 dX0_howOften_8 wF_X0_24 k0 gR_0_5 (tk_iload_n G dX0_howOften_11 2 rfl k)))) ?_
  refine s_iald G dX0_howOften_12 (kF_0_5 k0) (fun v12 => ?_)
  refine s_icmp_ge (tgt := 39) G dX0_howOften_13 (by decide) (fun q13 => ?_) (fun q13 => ?_)
  ·
    refine s_v (fun _ k => tk_iload_n G dX0_howOften_39 3 rfl k) ?_
    exact s_iret G dX0_howOften_40
  ·
    refine s_v (fun _ k => tk_aload_n G dX0_howOften_16 0 rfl (tk_iload_n G dX0_howOften_17 2 rfl (tk_iload G dX0_howOften_18 4 rfl k))) ?_
    refine s_callVI (As := [.int a2, .int y5_4]) G dX0_howOften_20 wY_X0_stepAt wM_X0_54 wI_X0_stepAt wS_X0_stepAt (tk_rm hR (by decide) (by decide)) kX0 k0 (by decide) (c_X0_stepAt E g5 a0 a2 y5_4 k0) rfl rfl (Nat.le_of_ble_eq_true rfl) ⟨Nat.zero_le _, Nat.zero_le _⟩ (fun x20 => ?_)
    refine s_callSNI (As := [.int x20.1]) G dX0_howOften_23 wY_X8_motifOf wM_X0_58 wI_X8_motifOf (tk_rm hR (by decide) (by decide)) (c_X8_motifOf E x20.2 x20.1) rfl rfl (Nat.le_of_ble_eq_true rfl) ⟨Nat.zero_le _, Nat.zero_le _⟩ (fun x23 => ?_)
    refine s_v (fun _ k => tk_iload_n G dX0_howOften_26 1 rfl k) ?_
    refine s_icmp_ne (tgt := 33) G dX0_howOften_27 (by decide) (fun q27 => ?_) (fun q27 => ?_)
    ·
      refine s_v (fun _ k => tk_iinc (al' := [(3, .int (y5_3 + 1)), (0, .ref (e_ad E a0)), (1, .int a1), (2, .int a2), (4, .int y5_4)]) G dX0_howOften_30 3 rfl (ci_1 _) (by decide) rfl (tk_iinc (al' := [(4, .int (y5_4 + 1)), (3, .int (y5_3 + 1)), (0, .ref (e_ad E a0)), (1, .int a1), (2, .int a2)]) G dX0_howOften_33 4 rfl (ci_1 _) (by decide) rfl (tk_goto (tgt := 5) G dX0_howOften_36 (by decide) k))) ?_
      refine s_sub [2, 3, 4, 1, 0] (al' := [(0, .ref (e_ad E a0)), (1, .int a1), (2, .int a2), (3, .int (y5_3 + 1)), (4, .int (y5_4 + 1))]) rfl ?_
      exact hL5 _ _ _
    ·
      refine s_v (fun _ k => tk_iinc (al' := [(4, .int (y5_4 + 1)), (0, .ref (e_ad E a0)), (1, .int a1), (2, .int a2), (3, .int y5_3)]) G dX0_howOften_33 4 rfl (ci_1 _) (by decide) rfl (tk_goto (tgt := 5) G dX0_howOften_36 (by decide) k)) ?_
      refine s_sub [1, 2, 3, 4, 0] (al' := [(0, .ref (e_ad E a0)), (1, .int a1), (2, .int a2), (3, .int y5_3), (4, .int (y5_4 + 1))]) rfl ?_
      exact hL5 _ _ _
theorem c_X0_howOften (E : tkE) (h : tkH) (a0 : Nat) (a1 : Int32) (a2 : Int32) (k0 : kd a0 = 3) : ∀ x, f_X0_howOften h a0 a1 a2 = some x → tkM E yX0_howOften cX0_howOften 5 (some .int) 1 tkF [.ref (e_ad E a0), .int a1, .int a2] h (some (.int x.1)) x.2 := fun x hx => tkM_of (by decide) (Nat.le_of_ble_eq_true rfl) (fun _ hR G => w_X0_howOften hR G h a0 a1 a2 k0 x hx)
set_option maxRecDepth 100000 in
set_option maxHeartbeats 4000000 in
theorem w_X0_isTorn {E : tkE} {X : tkX} (hR : x_R X = tkR 1) (G : tkG E X cX0_isTorn 2 RX0 (some .boolean)) (h : tkH) (a0 : Nat) (a1 : Int32) (k0 : kd a0 = 3) : tkS E X 2 0 0 (tkZi E X) 0 [(0, .ref (e_ad E a0)), (1, .int a1)] [] h (f_X0_isTorn h a0 a1) := by
  unfold f_X0_isTorn
  refine s_v (fun _ k => tk_aload_n G dX0_isTorn_0 0 rfl (tk_gr G kX0 dX0_isTorn_1 wF_X0_9 k0 gR_0_1 (tk_iload_n G dX0_isTorn_4 1 rfl k))) ?_
  refine s_iald G dX0_isTorn_5 (kF_0_1 k0) (fun v5 => ?_)
  refine s_v (fun _ k => tk_iconst G dX0_isTorn_6 cI_1 k) ?_
  refine s_callSNI (As := [.int v5, .int 1]) G dX0_isTorn_7 wY_X8_isUnder wM_X0_72 wI_X8_isUnder (tk_rm hR (by decide) (by decide)) (c_X8_isUnder E h v5 1) rfl rfl (Nat.le_of_ble_eq_true rfl) ⟨Nat.zero_le _, Nat.zero_le _⟩ (fun x7 => ?_)
  exact s_zretG G dX0_isTorn_10
theorem c_X0_isTorn (E : tkE) (h : tkH) (a0 : Nat) (a1 : Int32) (k0 : kd a0 = 3) : ∀ x, f_X0_isTorn h a0 a1 = some x → tkM E yX0_isTorn cX0_isTorn 2 (some .boolean) 1 tkF [.ref (e_ad E a0), .int a1] h (some (.int x.1)) x.2 := fun x hx => tkM_of (by decide) (Nat.le_of_ble_eq_true rfl) (fun _ hR G => w_X0_isTorn hR G h a0 a1 k0 x hx)
set_option maxRecDepth 100000 in
set_option maxHeartbeats 4000000 in
theorem w_X0_laidLength {E : tkE} {X : tkX} (hR : x_R X = tkR 1) (G : tkG E X cX0_laidLength 2 RX0 (some .int)) (h : tkH) (a0 : Nat) (a1 : Int32) (k0 : kd a0 = 3) : tkS E X 2 0 0 (tkZi E X) 0 [(0, .ref (e_ad E a0)), (1, .int a1)] [] h (f_X0_laidLength h a0 a1) := by
  unfold f_X0_laidLength
  refine s_v (fun _ k => tk_aload_n G dX0_laidLength_0 0 rfl (tk_iload_n G dX0_laidLength_1 1 rfl k)) ?_
  refine s_callVI (As := [.int a1]) G dX0_laidLength_2 wY_X0_isFramed wM_X0_75 wI_X0_isFramed wS_X0_isFramed (tk_rm hR (by decide) (by decide)) kX0 k0 (by decide) (c_X0_isFramed E h a0 a1 k0) rfl rfl (Nat.le_of_ble_eq_true rfl) ⟨Nat.zero_le _, Nat.zero_le _⟩ (fun x2 => ?_)
  refine s_if_eq (tgt := 19) G dX0_laidLength_5 (by decide) (fun q5 => ?_) (fun q5 => ?_)
  ·
    refine s_v (fun _ k => tk_aload_n G dX0_laidLength_19 0 rfl (tk_gr G kX0 dX0_laidLength_20 wF_X0_24 k0 gR_0_5 (tk_iload_n G dX0_laidLength_23 1 rfl k))) ?_
    refine s_iald G dX0_laidLength_24 (kF_0_5 k0) (fun v24 => ?_)
    exact s_iret G dX0_laidLength_25
  ·
    refine s_v (fun _ k => tk_aload_n G dX0_laidLength_8 0 rfl (tk_gr G kX0 dX0_laidLength_9 wF_X0_24 k0 gR_0_5 (tk_iload_n G dX0_laidLength_12 1 rfl k))) ?_
    refine s_iald G dX0_laidLength_13 (kF_0_5 k0) (fun v13 => ?_)
    refine s_v (fun _ k => tk_iconst G dX0_laidLength_14 cI_2 (tk_isub G dX0_laidLength_15 (tk_goto (tgt := 25) G dX0_laidLength_16 (by decide) k))) ?_
    exact s_iret G dX0_laidLength_25
theorem c_X0_laidLength (E : tkE) (h : tkH) (a0 : Nat) (a1 : Int32) (k0 : kd a0 = 3) : ∀ x, f_X0_laidLength h a0 a1 = some x → tkM E yX0_laidLength cX0_laidLength 2 (some .int) 1 tkF [.ref (e_ad E a0), .int a1] h (some (.int x.1)) x.2 := fun x hx => tkM_of (by decide) (Nat.le_of_ble_eq_true rfl) (fun _ hR G => w_X0_laidLength hR G h a0 a1 k0 x hx)
set_option maxRecDepth 100000 in
set_option maxHeartbeats 4000000 in
theorem w_X0_takeFrom {E : tkE} {X : tkX} (hR : x_R X = tkR 1) (G : tkG E X cX0_takeFrom 2 RX0 none) (h : tkH) (a0 : Nat) (a1 : Nat) (k0 : kd a0 = 3) (k1 : kd a1 = 3) : tkS E X 2 0 0 (tkZv E X) 0 [(0, .ref (e_ad E a0)), (1, .ref (e_ad E a1))] [] h (f_X0_takeFrom h a0 a1) := by
  unfold f_X0_takeFrom
  refine s_v (fun _ k => tk_aload_n G dX0_takeFrom_0 0 rfl (tk_aload_n G dX0_takeFrom_1 1 rfl (tk_gi G kX0 dX0_takeFrom_2 wF_X0_36 k1 gI_0_0 (tk_pi G kX0 dX0_takeFrom_5 wF_X0_36 k0 gP_0_0 (tk_aload_n G dX0_takeFrom_8 1 rfl (tk_gr G kX0 dX0_takeFrom_9 wF_X0_9 k1 gR_0_1 (tk_iconst G dX0_takeFrom_12 cI_0 (tk_aload_n G dX0_takeFrom_13 0 rfl (tk_gr G kX0 dX0_takeFrom_14 wF_X0_9 k0 gR_0_1 (tk_iconst G dX0_takeFrom_17 cI_0 (tk_bipush G dX0_takeFrom_18 cB_10 k))))))))))) ?_
  refine s_copy G dX0_takeFrom_20 wM_X0_40 (kF_0_1 k1) (kF_0_1 k0) (tk_rmc hR (by decide) (Nat.le_of_ble_eq_true rfl)) (fun h20 => ?_)
  refine s_v (fun _ k => tk_aload_n G dX0_takeFrom_23 1 rfl (tk_gr G kX0 dX0_takeFrom_24 wF_X0_15 k1 gR_0_2 (tk_iconst G dX0_takeFrom_27 cI_0 (tk_aload_n G dX0_takeFrom_28 0 rfl (tk_gr G kX0 dX0_takeFrom_29 wF_X0_15 k0 gR_0_2 (tk_iconst G dX0_takeFrom_32 cI_0 (tk_bipush G dX0_takeFrom_33 cB_10 k))))))) ?_
  refine s_copy G dX0_takeFrom_35 wM_X0_40 (kF_0_2 k1) (kF_0_2 k0) (tk_rmc hR (by decide) (Nat.le_of_ble_eq_true rfl)) (fun h35 => ?_)
  refine s_v (fun _ k => tk_aload_n G dX0_takeFrom_38 1 rfl (tk_gr G kX0 dX0_takeFrom_39 wF_X0_18 k1 gR_0_3 (tk_iconst G dX0_takeFrom_42 cI_0 (tk_aload_n G dX0_takeFrom_43 0 rfl (tk_gr G kX0 dX0_takeFrom_44 wF_X0_18 k0 gR_0_3 (tk_iconst G dX0_takeFrom_47 cI_0 (tk_bipush G dX0_takeFrom_48 cB_10 k))))))) ?_
  refine s_copy G dX0_takeFrom_50 wM_X0_40 (kF_0_3 k1) (kF_0_3 k0) (tk_rmc hR (by decide) (Nat.le_of_ble_eq_true rfl)) (fun h50 => ?_)
  refine s_v (fun _ k => tk_aload_n G dX0_takeFrom_53 1 rfl (tk_gr G kX0 dX0_takeFrom_54 wF_X0_21 k1 gR_0_4 (tk_iconst G dX0_takeFrom_57 cI_0 (tk_aload_n G dX0_takeFrom_58 0 rfl (tk_gr G kX0 dX0_takeFrom_59 wF_X0_21 k0 gR_0_4 (tk_iconst G dX0_takeFrom_62 cI_0 (tk_bipush G dX0_takeFrom_63 cB_10 k))))))) ?_
  refine s_copy G dX0_takeFrom_65 wM_X0_40 (kF_0_4 k1) (kF_0_4 k0) (tk_rmc hR (by decide) (Nat.le_of_ble_eq_true rfl)) (fun h65 => ?_)
  refine s_v (fun _ k => tk_aload_n G dX0_takeFrom_68 1 rfl (tk_gr G kX0 dX0_takeFrom_69 wF_X0_24 k1 gR_0_5 (tk_iconst G dX0_takeFrom_72 cI_0 (tk_aload_n G dX0_takeFrom_73 0 rfl (tk_gr G kX0 dX0_takeFrom_74 wF_X0_24 k0 gR_0_5 (tk_iconst G dX0_takeFrom_77 cI_0 (tk_bipush G dX0_takeFrom_78 cB_10 k))))))) ?_
  refine s_copy G dX0_takeFrom_80 wM_X0_40 (kF_0_5 k1) (kF_0_5 k0) (tk_rmc hR (by decide) (Nat.le_of_ble_eq_true rfl)) (fun h80 => ?_)
  refine s_v (fun _ k => tk_aload_n G dX0_takeFrom_83 1 rfl (tk_gr G kX0 dX0_takeFrom_84 wF_X0_27 k1 gR_0_6 (tk_iconst G dX0_takeFrom_87 cI_0 (tk_aload_n G dX0_takeFrom_88 0 rfl (tk_gr G kX0 dX0_takeFrom_89 wF_X0_27 k0 gR_0_6 (tk_iconst G dX0_takeFrom_92 cI_0 (tk_bipush G dX0_takeFrom_93 cB_100 k))))))) ?_
  refine s_copy G dX0_takeFrom_95 wM_X0_40 (kF_0_6 k1) (kF_0_6 k0) (tk_rmc hR (by decide) (Nat.le_of_ble_eq_true rfl)) (fun h95 => ?_)
  refine s_v (fun _ k => tk_aload_n G dX0_takeFrom_98 1 rfl (tk_gr G kX0 dX0_takeFrom_99 wF_X0_30 k1 gR_0_7 (tk_iconst G dX0_takeFrom_102 cI_0 (tk_aload_n G dX0_takeFrom_103 0 rfl (tk_gr G kX0 dX0_takeFrom_104 wF_X0_30 k0 gR_0_7 (tk_iconst G dX0_takeFrom_107 cI_0 (tk_iconst G dX0_takeFrom_108 cI_3 k))))))) ?_
  refine s_copy G dX0_takeFrom_109 wM_X0_40 (kF_0_7 k1) (kF_0_7 k0) (tk_rmc hR (by decide) (Nat.le_of_ble_eq_true rfl)) (fun h109 => ?_)
  refine s_v (fun _ k => tk_aload_n G dX0_takeFrom_112 1 rfl (tk_gr G kX0 dX0_takeFrom_113 wF_X0_33 k1 gR_0_8 (tk_iconst G dX0_takeFrom_116 cI_0 (tk_aload_n G dX0_takeFrom_117 0 rfl (tk_gr G kX0 dX0_takeFrom_118 wF_X0_33 k0 gR_0_8 (tk_iconst G dX0_takeFrom_121 cI_0 (tk_bipush G dX0_takeFrom_122 cB_36 k))))))) ?_
  refine s_copy G dX0_takeFrom_124 wM_X0_40 (kF_0_8 k1) (kF_0_8 k0) (tk_rmc hR (by decide) (Nat.le_of_ble_eq_true rfl)) (fun h124 => ?_)
  exact s_vret G dX0_takeFrom_127
theorem c_X0_takeFrom (E : tkE) (h : tkH) (a0 : Nat) (a1 : Nat) (k0 : kd a0 = 3) (k1 : kd a1 = 3) : ∀ x, f_X0_takeFrom h a0 a1 = some x → tkM E yX0_takeFrom cX0_takeFrom 2 none 1 tkF [.ref (e_ad E a0), .ref (e_ad E a1)] h none x := fun x hx => tkM_of (by decide) (Nat.le_of_ble_eq_true rfl) (fun _ hR G => w_X0_takeFrom hR G h a0 a1 k0 k1 x hx)
set_option maxRecDepth 100000 in
set_option maxHeartbeats 4000000 in
theorem w_X1_isSame {E : tkE} {X : tkX} (hR : x_R X = tkR 1) (G : tkG E X cX1_isSame 3 RX1 (some .boolean)) (h : tkH) (a0 : Nat) (a1 : Int32) (a2 : Int32) (k0 : kd a0 = 4) : tkS E X 3 0 0 (tkZi E X) 0 [(0, .ref (e_ad E a0)), (1, .int a1), (2, .int a2)] [] h (f_X1_isSame h a0 a1 a2) := by
  unfold f_X1_isSame
  refine s_v (fun _ k => tk_iload_n G dX1_isSame_0 1 rfl k) ?_
  refine s_callSNI (As := [.int a1]) G dX1_isSame_1 wY_X8_motifOf wM_X1_56 wI_X8_motifOf (tk_rm hR (by decide) (by decide)) (c_X8_motifOf E h a1) rfl rfl (Nat.le_of_ble_eq_true rfl) ⟨Nat.zero_le _, Nat.zero_le _⟩ (fun x1 => ?_)
  refine s_v (fun _ k => tk_iload_n G dX1_isSame_4 2 rfl k) ?_
  refine s_callSNI (As := [.int a2]) G dX1_isSame_5 wY_X8_motifOf wM_X1_56 wI_X8_motifOf (tk_rm hR (by decide) (by decide)) (c_X8_motifOf E x1.2 a2) rfl rfl (Nat.le_of_ble_eq_true rfl) ⟨Nat.zero_le _, Nat.zero_le _⟩ (fun x5 => ?_)
  refine s_icmp_ne (tgt := 45) G dX1_isSame_8 (by decide) (fun q8 => ?_) (fun q8 => ?_)
  ·
    refine s_v (fun _ k => tk_aload_n G dX1_isSame_11 0 rfl (tk_iload_n G dX1_isSame_12 1 rfl k)) ?_
    refine s_callSNI (As := [.int a1]) G dX1_isSame_13 wY_X8_whoOf wM_X1_60 wI_X8_whoOf (tk_rm hR (by decide) (by decide)) (c_X8_whoOf E x5.2 a1) rfl rfl (Nat.le_of_ble_eq_true rfl) ⟨Nat.zero_le _, Nat.zero_le _⟩ (fun x13 => ?_)
    refine s_v (fun _ k => tk_iload_n G dX1_isSame_16 2 rfl k) ?_
    refine s_callSNI (As := [.int a2]) G dX1_isSame_17 wY_X8_whoOf wM_X1_60 wI_X8_whoOf (tk_rm hR (by decide) (by decide)) (c_X8_whoOf E x13.2 a2) rfl rfl (Nat.le_of_ble_eq_true rfl) ⟨Nat.zero_le _, Nat.zero_le _⟩ (fun x17 => ?_)
    refine s_callVI (As := [.int x13.1, .int x17.1]) G dX1_isSame_20 wY_X1_leads wM_X1_63 wI_X1_leads wS_X1_leads (tk_rm hR (by decide) (by decide)) kX1 k0 (by decide) (c_X1_leads E x17.2 a0 x13.1 x17.1 k0) rfl rfl (Nat.le_of_ble_eq_true rfl) ⟨Nat.zero_le _, Nat.zero_le _⟩ (fun x20 => ?_)
    refine s_if_eq (tgt := 45) G dX1_isSame_23 (by decide) (fun q23 => ?_) (fun q23 => ?_)
    ·
      refine s_v (fun _ k => tk_iconst G dX1_isSame_45 cI_0 k) ?_
      exact s_zret G dX1_isSame_46 (by decide)
    ·
      refine s_v (fun _ k => tk_aload_n G dX1_isSame_26 0 rfl (tk_iload_n G dX1_isSame_27 1 rfl k)) ?_
      refine s_callSNI (As := [.int a1]) G dX1_isSame_28 wY_X8_whomOf wM_X1_66 wI_X8_whomOf (tk_rm hR (by decide) (by decide)) (c_X8_whomOf E x20.2 a1) rfl rfl (Nat.le_of_ble_eq_true rfl) ⟨Nat.zero_le _, Nat.zero_le _⟩ (fun x28 => ?_)
      refine s_v (fun _ k => tk_iload_n G dX1_isSame_31 2 rfl k) ?_
      refine s_callSNI (As := [.int a2]) G dX1_isSame_32 wY_X8_whomOf wM_X1_66 wI_X8_whomOf (tk_rm hR (by decide) (by decide)) (c_X8_whomOf E x28.2 a2) rfl rfl (Nat.le_of_ble_eq_true rfl) ⟨Nat.zero_le _, Nat.zero_le _⟩ (fun x32 => ?_)
      refine s_callVI (As := [.int x28.1, .int x32.1]) G dX1_isSame_35 wY_X1_leads wM_X1_63 wI_X1_leads wS_X1_leads (tk_rm hR (by decide) (by decide)) kX1 k0 (by decide) (c_X1_leads E x32.2 a0 x28.1 x32.1 k0) rfl rfl (Nat.le_of_ble_eq_true rfl) ⟨Nat.zero_le _, Nat.zero_le _⟩ (fun x35 => ?_)
      refine s_if_eq (tgt := 45) G dX1_isSame_38 (by decide) (fun q38 => ?_) (fun q38 => ?_)
      ·
        refine s_v (fun _ k => tk_iconst G dX1_isSame_45 cI_0 k) ?_
        exact s_zret G dX1_isSame_46 (by decide)
      ·
        refine s_v (fun _ k => tk_iconst G dX1_isSame_41 cI_1 (tk_goto (tgt := 46) G dX1_isSame_42 (by decide) k)) ?_
        exact s_zret G dX1_isSame_46 (by decide)
  ·
    refine s_v (fun _ k => tk_iconst G dX1_isSame_45 cI_0 k) ?_
    exact s_zret G dX1_isSame_46 (by decide)
theorem c_X1_isSame (E : tkE) (h : tkH) (a0 : Nat) (a1 : Int32) (a2 : Int32) (k0 : kd a0 = 4) : ∀ x, f_X1_isSame h a0 a1 a2 = some x → tkM E yX1_isSame cX1_isSame 3 (some .boolean) 1 tkF [.ref (e_ad E a0), .int a1, .int a2] h (some (.int x.1)) x.2 := fun x hx => tkM_of (by decide) (Nat.le_of_ble_eq_true rfl) (fun _ hR G => w_X1_isSame hR G h a0 a1 a2 k0 x hx)
set_option maxRecDepth 100000 in
set_option maxHeartbeats 4000000 in
theorem w_X2_forgetAll {E : tkE} {X : tkX} (hR : x_R X = tkR 1) (G : tkG E X cX2_forgetAll 1 RX2 none) (h : tkH) (a0 : Nat) (k0 : kd a0 = 5) : tkS E X 1 0 0 (tkZv E X) 0 [(0, .ref (e_ad E a0))] [] h (f_X2_forgetAll h a0) := by
  unfold f_X2_forgetAll
  refine s_v (fun _ k => tk_aload_n G dX2_forgetAll_0 0 rfl (tk_gr G kX2 dX2_forgetAll_1 wF_X2_18 k0 gR_2_1 (tk_iconst G dX2_forgetAll_4 cI_m1 k))) ?_
  refine s_callSV (As := [.ref (e_ad E (fld a0 1)), .int (-1)]) G dX2_forgetAll_5 wY_J7_fill_53178 wM_X2_22 wI_J7_fill_53178 (tk_rm hR (by decide) (by decide)) (c_J7_fill_53178 E h (fld a0 1) (-1) (kF_2_1 k0)) rfl rfl (Nat.le_of_ble_eq_true rfl) ⟨Nat.zero_le _, Nat.zero_le _⟩ (fun x5 => ?_)
  exact s_vret G dX2_forgetAll_8
theorem c_X2_forgetAll (E : tkE) (h : tkH) (a0 : Nat) (k0 : kd a0 = 5) : ∀ x, f_X2_forgetAll h a0 = some x → tkM E yX2_forgetAll cX2_forgetAll 1 none 1 tkF [.ref (e_ad E a0)] h none x := fun x hx => tkM_of (by decide) (Nat.le_of_ble_eq_true rfl) (fun _ hR G => w_X2_forgetAll hR G h a0 k0 x hx)
set_option maxRecDepth 100000 in
set_option maxHeartbeats 4000000 in
theorem w_X4_carrySteps {E : tkE} {X : tkX} (hR : x_R X = tkR 1) (G : tkG E X cX4_carrySteps 4 RX4 none) (h : tkH) (a0 : Nat) (a1 : Int32) (k0 : kd a0 = 7) : tkS E X 4 0 0 (tkZv E X) 0 [(0, .ref (e_ad E a0)), (1, .int a1)] [] h (f_X4_carrySteps h a0 a1) := by
  unfold f_X4_carrySteps
  refine s_v (fun _ k => tk_iconst G dX4_carrySteps_0 cI_0 (tk_istore_n (al' := [(2, .int 0), (0, .ref (e_ad E a0)), (1, .int a1)]) G dX4_carrySteps_1 (by decide) rfl k)) ?_
  refine s_sub [1, 2, 0] (al' := [(0, .ref (e_ad E a0)), (1, .int a1), (2, .int 0)]) rfl ?_
  unfold f_X4_carrySteps_L2
  refine s_lp1 (al := fun y2_2 => [(0, .ref (e_ad E a0)), (1, .int a1), (2, .int y2_2)]) (fun kk2 hL2 g2 y2_2 => ?_) _ _ _
  refine s_v (fun _ k => tk_iload_n G dX4_carrySteps_2 2 rfl (tk_aload_n G dX4_carrySteps_3 0 rfl (tk_gr G kX4 dX4_carrySteps_4 wF_X4_12 k0 gR_4_0 (tk_gi G kX5 dX4_carrySteps_7 wF_X4_59 (kF_4_0 k0) gI_5_1 k)))) ?_
  refine s_icmp_ge (tgt := 58) G dX4_carrySteps_10 (by decide) (fun q10 => ?_) (fun q10 => ?_)
  ·
    exact s_vret G dX4_carrySteps_58
  ·
    refine s_v (fun _ k => tk_aload_n G dX4_carrySteps_13 0 rfl (tk_gr G kX4 dX4_carrySteps_14 wF_X4_12 k0 gR_4_0 (tk_gr G kX5 dX4_carrySteps_17 wF_X4_62 (kF_4_0 k0) gR_5_0 (tk_iload_n G dX4_carrySteps_20 2 rfl k)))) ?_
    refine s_iald G dX4_carrySteps_21 (kF_5_0 (kF_4_0 k0)) (fun v21 => ?_)
    refine s_v (fun _ k => tk_istore_n (al' := [(3, .int v21), (0, .ref (e_ad E a0)), (1, .int a1), (2, .int y2_2)]) G dX4_carrySteps_22 (by decide) rfl (tk_aload_n G dX4_carrySteps_23 1 rfl (tk_gr G kX4 dX4_carrySteps_24 wF_X4_21 k0 gR_4_2 (tk_iload_n G dX4_carrySteps_27 3 rfl (tk_iload_n G dX4_carrySteps_28 0 rfl k))))) ?_
    refine s_callSNI (As := [.int v21]) G dX4_carrySteps_29 wY_X8_motifOf wM_X4_65 wI_X8_motifOf (tk_rm hR (by decide) (by decide)) (c_X8_motifOf E g2 v21) rfl rfl (Nat.le_of_ble_eq_true rfl) ⟨Nat.zero_le _, Nat.zero_le _⟩ (fun x29 => ?_)
    refine s_v (fun _ k => tk_iload_n G dX4_carrySteps_32 2 rfl (tk_iload_n G dX4_carrySteps_33 0 rfl k)) ?_
    refine s_callSNI (As := [.int v21]) G dX4_carrySteps_34 wY_X8_whoOf wM_X4_68 wI_X8_whoOf (tk_rm hR (by decide) (by decide)) (c_X8_whoOf E x29.2 v21) rfl rfl (Nat.le_of_ble_eq_true rfl) ⟨Nat.zero_le _, Nat.zero_le _⟩ (fun x34 => ?_)
    refine s_callSNI (As := [.int a1, .int x34.1]) G dX4_carrySteps_37 wY_X8_goal wM_X4_71 wI_X8_goal (tk_rm hR (by decide) (by decide)) (c_X8_goal E x34.2 a1 x34.1) rfl rfl (Nat.le_of_ble_eq_true rfl) ⟨Nat.zero_le _, Nat.zero_le _⟩ (fun x37 => ?_)
    refine s_v (fun _ k => tk_iload_n G dX4_carrySteps_40 2 rfl (tk_iload_n G dX4_carrySteps_41 0 rfl k)) ?_
    refine s_callSNI (As := [.int v21]) G dX4_carrySteps_42 wY_X8_whomOf wM_X4_75 wI_X8_whomOf (tk_rm hR (by decide) (by decide)) (c_X8_whomOf E x37.2 v21) rfl rfl (Nat.le_of_ble_eq_true rfl) ⟨Nat.zero_le _, Nat.zero_le _⟩ (fun x42 => ?_)
    refine s_callSNI (As := [.int a1, .int x42.1]) G dX4_carrySteps_45 wY_X8_goal wM_X4_71 wI_X8_goal (tk_rm hR (by decide) (by decide)) (c_X8_goal E x42.2 a1 x42.1) rfl rfl (Nat.le_of_ble_eq_true rfl) ⟨Nat.zero_le _, Nat.zero_le _⟩ (fun x45 => ?_)
    refine s_callSNI (As := [.int x29.1, .int x37.1, .int x45.1]) G dX4_carrySteps_48 wY_X8_packed wM_X4_78 wI_X8_packed (tk_rm hR (by decide) (by decide)) (c_X8_packed E x45.2 x29.1 x37.1 x45.1) rfl rfl (Nat.le_of_ble_eq_true rfl) ⟨Nat.zero_le _, Nat.zero_le _⟩ (fun x48 => ?_)
    refine s_iast G dX4_carrySteps_51 (kF_4_2 k0) (fun h51 => ?_)
    refine s_v (fun _ k => tk_iinc (al' := [(2, .int (y2_2 + 1)), (3, .int v21), (0, .ref (e_ad E a0)), (1, .int a1)]) G dX4_carrySteps_52 3 rfl (ci_1 _) (by decide) rfl (tk_goto (tgt := 2) G dX4_carrySteps_55 (by decide) k)) ?_
    refine s_sub [2, 3, 0] (al' := [(0, .ref (e_ad E a0)), (1, .int a1), (2, .int (y2_2 + 1))]) rfl ?_
    exact hL2 _ _
theorem c_X4_carrySteps (E : tkE) (h : tkH) (a0 : Nat) (a1 : Int32) (k0 : kd a0 = 7) : ∀ x, f_X4_carrySteps h a0 a1 = some x → tkM E yX4_carrySteps cX4_carrySteps 4 none 1 tkF [.ref (e_ad E a0), .int a1] h none x := fun x hx => tkM_of (by decide) (Nat.le_of_ble_eq_true rfl) (fun _ hR G => w_X4_carrySteps hR G h a0 a1 k0 x hx)
set_option maxRecDepth 100000 in
set_option maxHeartbeats 4000000 in
theorem w_X4_fillRests {E : tkE} {X : tkX} (hR : x_R X = tkR 1) (G : tkG E X cX4_fillRests 7 RX4 (some .int)) (h : tkH) (a0 : Nat) (a1 : Int32) (k0 : kd a0 = 7) : tkS E X 7 0 0 (tkZi E X) 0 [(0, .ref (e_ad E a0)), (1, .int a1)] [] h (f_X4_fillRests h a0 a1) := by
  unfold f_X4_fillRests
  refine s_v (fun _ k => tk_aload_n G dX4_fillRests_0 0 rfl (tk_gr G kX4 dX4_fillRests_1 wF_X4_12 k0 gR_4_0 (tk_gi G kX5 dX4_fillRests_4 wF_X4_59 (kF_4_0 k0) gI_5_1 (tk_istore_n (al' := [(2, .int (h (fld a0 0) 1)), (0, .ref (e_ad E a0)), (1, .int a1)]) G dX4_fillRests_7 (by decide) rfl k)))) ?_
  have hX166 : ∀ (gz166 : tkH), tkS E X 7 0 0 (tkZi E X) 166 [(0, .ref (e_ad E a0))] [] gz166 ((rdI gz166 (fld a0 3) 0).bind fun v171 => some (v171, gz166)) := by
    intro gz166
    refine s_v (fun _ k => tk_aload_n G dX4_fillRests_166 0 rfl (tk_gr G kX4 dX4_fillRests_167 wF_X4_25 k0 gR_4_3 (tk_iconst G dX4_fillRests_170 cI_0 k))) ?_
    refine s_iald G dX4_fillRests_171 (kF_4_3 k0) (fun v171 => ?_)
    exact s_iret G dX4_fillRests_172
  refine s_sub [1, 2, 0] (al' := [(0, .ref (e_ad E a0)), (1, .int a1), (2, .int (h (fld a0 0) 1))]) rfl ?_
  unfold f_X4_fillRests_L8
  refine s_lp1 (al := fun y8_2 => [(0, .ref (e_ad E a0)), (1, .int a1), (2, .int y8_2)]) (fun kk8 hL8 g8 y8_2 => ?_) _ _ _
  refine s_v (fun _ k => tk_iload_n G dX4_fillRests_8 2 rfl k) ?_
  refine s_if_lt (tgt := 166) G dX4_fillRests_9 (by decide) (fun q9 => ?_) (fun q9 => ?_)
  ·
    refine s_sub [0] (al' := [(0, .ref (e_ad E a0))]) rfl ?_
    exact hX166 _
  ·
    refine s_v (fun _ k => tk_ldc G dX4_fillRests_12 wK_X4_41 (tk_istore_n (al' := [(3, .int 1000000), (0, .ref (e_ad E a0)), (1, .int a1), (2, .int y8_2)]) G dX4_fillRests_14 (by decide) rfl (tk_aload_n G dX4_fillRests_15 1 rfl (tk_gr G kX4 dX4_fillRests_16 wF_X4_18 k0 gR_4_1 (tk_gi G kX5 dX4_fillRests_19 wF_X4_59 (kF_4_1 k0) gI_5_1 (tk_istore (al' := [(4, .int (g8 (fld a0 1) 1)), (3, .int 1000000), (0, .ref (e_ad E a0)), (1, .int a1), (2, .int y8_2)]) G dX4_fillRests_22 (by decide) rfl k)))))) ?_
    have hX153 : ∀ (gz153 : tkH) (z153_3 : Int32), tkS E X 7 0 0 (tkZi E X) 153 [(0, .ref (e_ad E a0)), (1, .int a1), (2, .int y8_2), (3, .int z153_3)] [] gz153 (if z153_3 < a1 then (kk8 gz153 (y8_2 + (-1))) else (some (a1, gz153))) := by
      intro gz153 z153_3
      refine s_v (fun _ k => tk_iload_n G dX4_fillRests_153 3 rfl (tk_iload_n G dX4_fillRests_154 1 rfl k)) ?_
      refine s_icmp_lt (tgt := 160) G dX4_fillRests_155 (by decide) (fun q155 => ?_) (fun q155 => ?_)
      ·
        refine s_v (fun _ k => tk_iinc (al' := [(2, .int (y8_2 + (-1))), (0, .ref (e_ad E a0)), (1, .int a1), (3, .int z153_3)]) G dX4_fillRests_160 2 rfl (ci_m1 _) (by decide) rfl (tk_goto (tgt := 8) G dX4_fillRests_163 (by decide) k)) ?_
        refine s_sub [1, 2, 0] (al' := [(0, .ref (e_ad E a0)), (1, .int a1), (2, .int (y8_2 + (-1)))]) rfl ?_
        exact hL8 _ _
      ·
        refine s_v (fun _ k => tk_iload_n G dX4_fillRests_158 1 rfl k) ?_
        exact s_iret G dX4_fillRests_159
    refine s_sub [2, 3, 4, 1, 0] (al' := [(0, .ref (e_ad E a0)), (1, .int a1), (2, .int y8_2), (3, .int 1000000), (4, .int (g8 (fld a0 1) 1))]) rfl ?_
    unfold f_X4_fillRests_L24
    refine s_lp2 (al := fun y24_3 y24_4 => [(0, .ref (e_ad E a0)), (1, .int a1), (2, .int y8_2), (3, .int y24_3), (4, .int y24_4)]) (fun kk24 hL24 g24 y24_3 y24_4 => ?_) _ _ _ _
    refine s_v (fun _ k => tk_iload G dX4_fillRests_24 4 rfl k) ?_
    refine s_if_lt (tgt := 153) G dX4_fillRests_26 (by decide) (fun q26 => ?_) (fun q26 => ?_)
    ·
      refine s_sub [0, 1, 2, 3] (al' := [(0, .ref (e_ad E a0)), (1, .int a1), (2, .int y8_2), (3, .int y24_3)]) rfl ?_
      exact hX153 _ _
    ·
      refine s_v (fun _ k => tk_iload_n G dX4_fillRests_29 2 rfl (tk_bipush G dX4_fillRests_30 cB_11 (tk_imul G dX4_fillRests_32 (tk_iload G dX4_fillRests_33 4 rfl (tk_iadd G dX4_fillRests_35 (tk_istore (al' := [(5, .int ((y8_2 * 11) + y24_4)), (0, .ref (e_ad E a0)), (1, .int a1), (2, .int y8_2), (3, .int y24_3), (4, .int y24_4)]) G dX4_fillRests_36 (by decide) rfl (tk_aload_n G dX4_fillRests_38 1 rfl (tk_iload_n G dX4_fillRests_39 3 rfl (tk_iload G dX4_fillRests_40 5 rfl k))))))))) ?_
      refine s_callVI (As := [.int y8_2, .int y24_4]) G dX4_fillRests_42 wY_X4_endPrice wM_X4_82 wI_X4_endPrice wS_X4_endPrice (tk_rm hR (by decide) (by decide)) kX4 k0 (by decide) (c_X4_endPrice E g24 a0 y8_2 y24_4 k0) rfl rfl (Nat.le_of_ble_eq_true rfl) ⟨Nat.zero_le _, Nat.zero_le _⟩ (fun x42 => ?_)
      refine s_v (fun _ k => tk_istore (al' := [(6, .int x42.1), (5, .int ((y8_2 * 11) + y24_4)), (0, .ref (e_ad E a0)), (1, .int a1), (2, .int y8_2), (3, .int y24_3), (4, .int y24_4)]) G dX4_fillRests_45 (by decide) rfl (tk_iload_n G dX4_fillRests_47 4 rfl (tk_aload_n G dX4_fillRests_48 2 rfl (tk_gr G kX4 dX4_fillRests_49 wF_X4_12 k0 gR_4_0 (tk_gi G kX5 dX4_fillRests_52 wF_X4_59 (kF_4_0 k0) gI_5_1 k))))) ?_
      have hJ131 : ∀ (g131 : tkH) (y131_6 : Int32), tkS E X 7 0 0 (tkZi E X) 131 [(0, .ref (e_ad E a0)), (1, .int a1), (2, .int y8_2), (3, .int y24_3), (4, .int y24_4), (5, .int ((y8_2 * 11) + y24_4)), (6, .int y131_6)] [] g131 (f_X4_fillRests_J131 a0 y8_2 y24_4 kk24 y24_3 g131 y131_6) := by
        intro g131 y131_6
        unfold f_X4_fillRests_J131
        refine s_v (fun _ k => tk_aload_n G dX4_fillRests_131 0 rfl (tk_gr G kX4 dX4_fillRests_132 wF_X4_25 k0 gR_4_3 (tk_iload G dX4_fillRests_135 5 rfl (tk_iload G dX4_fillRests_137 6 rfl k)))) ?_
        refine s_iast G dX4_fillRests_139 (kF_4_3 k0) (fun h139 => ?_)
        refine s_v (fun _ k => tk_iload_n G dX4_fillRests_140 3 rfl (tk_iload G dX4_fillRests_141 6 rfl (tk_mmin G dX4_fillRests_143 wM_X4_88 (tk_rmm hR (by decide) (Nat.le_of_ble_eq_true rfl)) ⟨Nat.zero_le _, Nat.zero_le _⟩ (tk_istore_n (al' := [(3, .int (mnI y24_3 y131_6)), (0, .ref (e_ad E a0)), (1, .int a1), (2, .int y8_2), (4, .int y24_4), (5, .int ((y8_2 * 11) + y24_4)), (6, .int y131_6)]) G dX4_fillRests_146 (by decide) rfl (tk_iinc (al' := [(4, .int (y24_4 + (-1))), (3, .int (mnI y24_3 y131_6)), (0, .ref (e_ad E a0)), (1, .int a1), (2, .int y8_2), (5, .int ((y8_2 * 11) + y24_4)), (6, .int y131_6)]) G dX4_fillRests_147 4 rfl (ci_m1 _) (by decide) rfl (tk_goto (tgt := 24) G dX4_fillRests_150 (by decide) k)))))) ?_
        refine s_sub [2, 3, 4, 1, 0] (al' := [(0, .ref (e_ad E a0)), (1, .int a1), (2, .int y8_2), (3, .int (mnI y24_3 y131_6)), (4, .int (y24_4 + (-1)))]) rfl ?_
        exact hL24 _ _ _
      refine s_icmp_ge (tgt := 131) G dX4_fillRests_55 (by decide) (fun q55 => ?_) (fun q55 => ?_)
      ·
        refine s_sub [2, 3, 4, 5, 6, 1, 0] (al' := [(0, .ref (e_ad E a0)), (1, .int a1), (2, .int y8_2), (3, .int y24_3), (4, .int y24_4), (5, .int ((y8_2 * 11) + y24_4)), (6, .int x42.1)]) rfl ?_
        exact hJ131 _ _
      ·
        refine s_v (fun _ k => tk_iload G dX4_fillRests_58 6 rfl (tk_aload_n G dX4_fillRests_60 2 rfl (tk_gr G kX4 dX4_fillRests_61 wF_X4_18 k0 gR_4_1 (tk_gi G kX5 dX4_fillRests_64 wF_X4_59 (kF_4_1 k0) gI_5_1 k)))) ?_
        refine s_icmp_ge (tgt := 131) G dX4_fillRests_67 (by decide) (fun q67 => ?_) (fun q67 => ?_)
        ·
          refine s_sub [2, 3, 4, 5, 6, 1, 0] (al' := [(0, .ref (e_ad E a0)), (1, .int a1), (2, .int y8_2), (3, .int y24_3), (4, .int y24_4), (5, .int ((y8_2 * 11) + y24_4)), (6, .int x42.1)]) rfl ?_
          exact hJ131 _ _
        ·
          refine s_v (fun _ k => tk_iload G dX4_fillRests_70 0 rfl (tk_aload_n G dX4_fillRests_72 2 rfl (tk_iload_n G dX4_fillRests_73 4 rfl (tk_iload G dX4_fillRests_74 6 rfl k)))) ?_
          refine s_callVI (As := [.int y8_2, .int y24_4]) G dX4_fillRests_76 wY_X4_pairPrice wM_X4_85 wI_X4_pairPrice wS_X4_pairPrice (tk_rm hR (by decide) (by decide)) kX4 k0 (by decide) (c_X4_pairPrice E x42.2 a0 y8_2 y24_4 k0) rfl rfl (Nat.le_of_ble_eq_true rfl) ⟨Nat.zero_le _, Nat.zero_le _⟩ (fun x76 => ?_)
          refine s_v (fun _ k => tk_aload_n G dX4_fillRests_79 2 rfl (tk_gr G kX4 dX4_fillRests_80 wF_X4_25 k0 gR_4_3 (tk_iload G dX4_fillRests_83 1 rfl (tk_bipush G dX4_fillRests_85 cB_11 (tk_iadd G dX4_fillRests_87 (tk_iconst G dX4_fillRests_88 cI_1 (tk_iadd G dX4_fillRests_89 k))))))) ?_
          refine s_iald G dX4_fillRests_90 (kF_4_3 k0) (fun v90 => ?_)
          refine s_v (fun _ k => tk_iadd G dX4_fillRests_91 (tk_mmin G dX4_fillRests_92 wM_X4_88 (tk_rmm hR (by decide) (Nat.le_of_ble_eq_true rfl)) ⟨Nat.zero_le _, Nat.zero_le _⟩ (tk_istore (al' := [(6, .int (mnI x42.1 (x76.1 + v90))), (5, .int ((y8_2 * 11) + y24_4)), (0, .ref (e_ad E a0)), (1, .int a1), (2, .int y8_2), (3, .int y24_3), (4, .int y24_4)]) G dX4_fillRests_95 (by decide) rfl (tk_iload G dX4_fillRests_97 0 rfl (tk_aload_n G dX4_fillRests_99 2 rfl (tk_gi G kX4 dX4_fillRests_100 wF_X4_38 k0 gI_4_7 (tk_aload_n G dX4_fillRests_103 2 rfl (tk_gr G kX4 dX4_fillRests_104 wF_X4_25 k0 gR_4_3 (tk_iload G dX4_fillRests_107 1 rfl (tk_bipush G dX4_fillRests_109 cB_11 (tk_iadd G dX4_fillRests_111 k))))))))))) ?_
          refine s_iald G dX4_fillRests_112 (kF_4_3 k0) (fun v112 => ?_)
          refine s_v (fun _ k => tk_aload_n G dX4_fillRests_113 2 rfl (tk_gr G kX4 dX4_fillRests_114 wF_X4_25 k0 gR_4_3 (tk_iload G dX4_fillRests_117 1 rfl (tk_iconst G dX4_fillRests_119 cI_1 (tk_iadd G dX4_fillRests_120 k))))) ?_
          refine s_iald G dX4_fillRests_121 (kF_4_3 k0) (fun v121 => ?_)
          refine s_v (fun _ k => tk_mmin G dX4_fillRests_122 wM_X4_88 (tk_rmm hR (by decide) (Nat.le_of_ble_eq_true rfl)) ⟨Nat.zero_le _, Nat.zero_le _⟩ (tk_iadd G dX4_fillRests_125 (tk_mmin G dX4_fillRests_126 wM_X4_88 (tk_rmm hR (by decide) (Nat.le_of_ble_eq_true rfl)) ⟨Nat.zero_le _, Nat.zero_le _⟩ (tk_istore (al' := [(6, .int (mnI (mnI x42.1 (x76.1 + v90)) (((x76.2) a0 7) + (mnI v112 v121)))), (5, .int ((y8_2 * 11) + y24_4)), (0, .ref (e_ad E a0)), (1, .int a1), (2, .int y8_2), (3, .int y24_3), (4, .int y24_4)]) G dX4_fillRests_129 (by decide) rfl k)))) ?_
          refine s_sub [2, 3, 4, 5, 6, 1, 0] (al' := [(0, .ref (e_ad E a0)), (1, .int a1), (2, .int y8_2), (3, .int y24_3), (4, .int y24_4), (5, .int ((y8_2 * 11) + y24_4)), (6, .int (mnI (mnI x42.1 (x76.1 + v90)) (((x76.2) a0 7) + (mnI v112 v121))))]) rfl ?_
          exact hJ131 _ _
theorem c_X4_fillRests (E : tkE) (h : tkH) (a0 : Nat) (a1 : Int32) (k0 : kd a0 = 7) : ∀ x, f_X4_fillRests h a0 a1 = some x → tkM E yX4_fillRests cX4_fillRests 7 (some .int) 1 tkF [.ref (e_ad E a0), .int a1] h (some (.int x.1)) x.2 := fun x hx => tkM_of (by decide) (Nat.le_of_ble_eq_true rfl) (fun _ hR G => w_X4_fillRests hR G h a0 a1 k0 x hx)
set_option maxRecDepth 100000 in
set_option maxHeartbeats 4000000 in
theorem w_X4_howManyPairs {E : tkE} {X : tkX} (hR : x_R X = tkR 1) (G : tkG E X cX4_howManyPairs 5 RX4 (some .int)) (h : tkH) (a0 : Nat) (a1 : Int32) (k0 : kd a0 = 7) : tkS E X 5 0 0 (tkZi E X) 0 [(0, .ref (e_ad E a0)), (1, .int a1)] [] h (f_X4_howManyPairs h a0 a1) := by
  unfold f_X4_howManyPairs
  refine s_v (fun _ k => tk_iconst G dX4_howManyPairs_0 cI_0 (tk_istore_n (al' := [(2, .int 0), (0, .ref (e_ad E a0)), (1, .int a1)]) G dX4_howManyPairs_1 (by decide) rfl (tk_iconst G dX4_howManyPairs_2 cI_0 (tk_istore_n (al' := [(3, .int 0), (2, .int 0), (0, .ref (e_ad E a0)), (1, .int a1)]) G dX4_howManyPairs_3 (by decide) rfl k)))) ?_
  refine s_sub [2, 3, 1, 0] (al' := [(0, .ref (e_ad E a0)), (1, .int a1), (2, .int 0), (3, .int 0)]) rfl ?_
  unfold f_X4_howManyPairs_L4
  refine s_lp2 (al := fun y4_2 y4_3 => [(0, .ref (e_ad E a0)), (1, .int a1), (2, .int y4_2), (3, .int y4_3)]) (fun kk4 hL4 g4 y4_2 y4_3 => ?_) _ _ _ _
  refine s_v (fun _ k => tk_iload_n G dX4_howManyPairs_4 3 rfl (tk_aload_n G dX4_howManyPairs_5 0 rfl (tk_gr G kX4 dX4_howManyPairs_6 wF_X4_12 k0 gR_4_0 (tk_gi G kX5 dX4_howManyPairs_9 wF_X4_59 (kF_4_0 k0) gI_5_1 k)))) ?_
  refine s_icmp_ge (tgt := 69) G dX4_howManyPairs_12 (by decide) (fun q12 => ?_) (fun q12 => ?_)
  ·
    refine s_v (fun _ k => tk_iload_n G dX4_howManyPairs_69 2 rfl k) ?_
    exact s_iret G dX4_howManyPairs_70
  ·
    refine s_v (fun _ k => tk_aload_n G dX4_howManyPairs_15 0 rfl (tk_gr G kX4 dX4_howManyPairs_16 wF_X4_28 k0 gR_4_4 (tk_iload_n G dX4_howManyPairs_19 3 rfl k))) ?_
    refine s_iald G dX4_howManyPairs_20 (kF_4_4 k0) (fun v20 => ?_)
    refine s_v (fun _ k => tk_istore (al' := [(4, .int v20), (0, .ref (e_ad E a0)), (1, .int a1), (2, .int y4_2), (3, .int y4_3)]) G dX4_howManyPairs_21 (by decide) rfl (tk_iload G dX4_howManyPairs_23 0 rfl k)) ?_
    refine s_if_lt (tgt := 63) G dX4_howManyPairs_25 (by decide) (fun q25 => ?_) (fun q25 => ?_)
    ·
      refine s_v (fun _ k => tk_iinc (al' := [(3, .int (y4_3 + 1)), (4, .int v20), (0, .ref (e_ad E a0)), (1, .int a1), (2, .int y4_2)]) G dX4_howManyPairs_63 4 rfl (ci_1 _) (by decide) rfl (tk_goto (tgt := 4) G dX4_howManyPairs_66 (by decide) k)) ?_
      refine s_sub [2, 3, 4, 0] (al' := [(0, .ref (e_ad E a0)), (1, .int a1), (2, .int y4_2), (3, .int (y4_3 + 1))]) rfl ?_
      exact hL4 _ _ _
    ·
      refine s_v (fun _ k => tk_iload_n G dX4_howManyPairs_28 2 rfl k) ?_
      refine s_if_eq (tgt := 60) G dX4_howManyPairs_29 (by decide) (fun q29 => ?_) (fun q29 => ?_)
      ·
        refine s_v (fun _ k => tk_iinc (al' := [(2, .int (y4_2 + 1)), (4, .int v20), (0, .ref (e_ad E a0)), (1, .int a1), (3, .int y4_3)]) G dX4_howManyPairs_60 3 rfl (ci_1 _) (by decide) rfl (tk_iinc (al' := [(3, .int (y4_3 + 1)), (2, .int (y4_2 + 1)), (4, .int v20), (0, .ref (e_ad E a0)), (1, .int a1)]) G dX4_howManyPairs_63 4 rfl (ci_1 _) (by decide) rfl (tk_goto (tgt := 4) G dX4_howManyPairs_66 (by decide) k))) ?_
        refine s_sub [3, 4, 1, 0] (al' := [(0, .ref (e_ad E a0)), (1, .int a1), (2, .int (y4_2 + 1)), (3, .int (y4_3 + 1))]) rfl ?_
        exact hL4 _ _ _
      ·
        refine s_v (fun _ k => tk_aload_n G dX4_howManyPairs_32 1 rfl (tk_gr G kX4 dX4_howManyPairs_33 wF_X4_12 k0 gR_4_0 (tk_gr G kX5 dX4_howManyPairs_36 wF_X4_62 (kF_4_0 k0) gR_5_0 (tk_iload_n G dX4_howManyPairs_39 4 rfl k)))) ?_
        refine s_iald G dX4_howManyPairs_40 (kF_5_0 (kF_4_0 k0)) (fun v40 => ?_)
        refine s_callSNI (As := [.int v40]) G dX4_howManyPairs_41 wY_X8_motifOf wM_X4_65 wI_X8_motifOf (tk_rm hR (by decide) (by decide)) (c_X8_motifOf E g4 v40) rfl rfl (Nat.le_of_ble_eq_true rfl) ⟨Nat.zero_le _, Nat.zero_le _⟩ (fun x41 => ?_)
        refine s_v (fun _ k => tk_aload_n G dX4_howManyPairs_44 1 rfl (tk_gr G kX4 dX4_howManyPairs_45 wF_X4_18 k0 gR_4_1 (tk_gr G kX5 dX4_howManyPairs_48 wF_X4_62 (kF_4_1 k0) gR_5_0 (tk_iload G dX4_howManyPairs_51 0 rfl k)))) ?_
        refine s_iald G dX4_howManyPairs_53 (kF_5_0 (kF_4_1 k0)) (fun v53 => ?_)
        refine s_callSNI (As := [.int v53]) G dX4_howManyPairs_54 wY_X8_motifOf wM_X4_65 wI_X8_motifOf (tk_rm hR (by decide) (by decide)) (c_X8_motifOf E x41.2 v53) rfl rfl (Nat.le_of_ble_eq_true rfl) ⟨Nat.zero_le _, Nat.zero_le _⟩ (fun x54 => ?_)
        refine s_icmp_ne (tgt := 63) G dX4_howManyPairs_57 (by decide) (fun q57 => ?_) (fun q57 => ?_)
        ·
          refine s_v (fun _ k => tk_iinc (al' := [(2, .int (y4_2 + 1)), (4, .int v20), (0, .ref (e_ad E a0)), (1, .int a1), (3, .int y4_3)]) G dX4_howManyPairs_60 3 rfl (ci_1 _) (by decide) rfl (tk_iinc (al' := [(3, .int (y4_3 + 1)), (2, .int (y4_2 + 1)), (4, .int v20), (0, .ref (e_ad E a0)), (1, .int a1)]) G dX4_howManyPairs_63 4 rfl (ci_1 _) (by decide) rfl (tk_goto (tgt := 4) G dX4_howManyPairs_66 (by decide) k))) ?_
          refine s_sub [3, 4, 1, 0] (al' := [(0, .ref (e_ad E a0)), (1, .int a1), (2, .int (y4_2 + 1)), (3, .int (y4_3 + 1))]) rfl ?_
          exact hL4 _ _ _
        ·
          refine s_v (fun _ k => tk_iinc (al' := [(3, .int (y4_3 + 1)), (4, .int v20), (0, .ref (e_ad E a0)), (1, .int a1), (2, .int y4_2)]) G dX4_howManyPairs_63 4 rfl (ci_1 _) (by decide) rfl (tk_goto (tgt := 4) G dX4_howManyPairs_66 (by decide) k)) ?_
          refine s_sub [2, 3, 4, 0] (al' := [(0, .ref (e_ad E a0)), (1, .int a1), (2, .int y4_2), (3, .int (y4_3 + 1))]) rfl ?_
          exact hL4 _ _ _
theorem c_X4_howManyPairs (E : tkE) (h : tkH) (a0 : Nat) (a1 : Int32) (k0 : kd a0 = 7) : ∀ x, f_X4_howManyPairs h a0 a1 = some x → tkM E yX4_howManyPairs cX4_howManyPairs 5 (some .int) 1 tkF [.ref (e_ad E a0), .int a1] h (some (.int x.1)) x.2 := fun x hx => tkM_of (by decide) (Nat.le_of_ble_eq_true rfl) (fun _ hR G => w_X4_howManyPairs hR G h a0 a1 k0 x hx)
set_option maxRecDepth 100000 in
set_option maxHeartbeats 4000000 in
theorem w_X5_takePart {E : tkE} {X : tkX} (hR : x_R X = tkR 1) (G : tkG E X cX5_takePart 5 RX5 none) (h : tkH) (a0 : Nat) (a1 : Nat) (a2 : Int32) (a3 : Int32) (a4 : Int32) (k0 : kd a0 = 8) (k1 : kd a1 = 3) : tkS E X 5 0 0 (tkZv E X) 0 [(0, .ref (e_ad E a0)), (1, .ref (e_ad E a1)), (2, .int a2), (3, .int a3), (4, .int a4)] [] h (f_X5_takePart h a0 a1 a2 a3 a4) := by
  unfold f_X5_takePart
  refine s_v (fun _ k => tk_aload_n G dX5_takePart_0 1 rfl (tk_gr G kX0 dX5_takePart_1 wF_X5_35 k1 gR_0_6 (tk_iload_n G dX5_takePart_4 2 rfl (tk_bipush G dX5_takePart_5 cB_10 (tk_imul G dX5_takePart_7 (tk_iload_n G dX5_takePart_8 3 rfl (tk_iadd G dX5_takePart_9 (tk_aload_n G dX5_takePart_10 0 rfl (tk_gr G kX5 dX5_takePart_11 wF_X5_9 k0 gR_5_0 (tk_iconst G dX5_takePart_14 cI_0 (tk_iload G dX5_takePart_15 4 rfl k))))))))))) ?_
  refine s_copy G dX5_takePart_17 wM_X5_36 (kF_0_6 k1) (kF_5_0 k0) (tk_rmc hR (by decide) (Nat.le_of_ble_eq_true rfl)) (fun h17 => ?_)
  refine s_v (fun _ k => tk_aload_n G dX5_takePart_20 0 rfl (tk_iload G dX5_takePart_21 4 rfl (tk_pi G kX5 dX5_takePart_23 wF_X5_42 k0 gP_5_1 (tk_aload_n G dX5_takePart_26 0 rfl (tk_iconst G dX5_takePart_27 cI_0 (tk_pz G kX5 dX5_takePart_28 wF_X5_32 k0 gP_5_2 (by decide) k)))))) ?_
  exact s_vret G dX5_takePart_31
theorem c_X5_takePart (E : tkE) (h : tkH) (a0 : Nat) (a1 : Nat) (a2 : Int32) (a3 : Int32) (a4 : Int32) (k0 : kd a0 = 8) (k1 : kd a1 = 3) : ∀ x, f_X5_takePart h a0 a1 a2 a3 a4 = some x → tkM E yX5_takePart cX5_takePart 5 none 1 tkF [.ref (e_ad E a0), .ref (e_ad E a1), .int a2, .int a3, .int a4] h none x := fun x hx => tkM_of (by decide) (Nat.le_of_ble_eq_true rfl) (fun _ hR G => w_X5_takePart hR G h a0 a1 a2 a3 a4 k0 k1 x hx)
set_option maxRecDepth 100000 in
set_option maxHeartbeats 4000000 in
theorem w_X6_makeAnew {E : tkE} {X : tkX} (hR : x_R X = tkR 1) (G : tkG E X cX6_makeAnew 3 RX6 none) (h : tkH) (a0 : Nat) (a1 : Int32) (a2 : Int32) (k0 : kd a0 = 9) : tkS E X 3 0 0 (tkZv E X) 0 [(0, .ref (e_ad E a0)), (1, .int a1), (2, .int a2)] [] h (f_X6_makeAnew h a0 a1 a2) := by
  unfold f_X6_makeAnew
  refine s_v (fun _ k => tk_aload_n G dX6_makeAnew_0 0 rfl (tk_iload_n G dX6_makeAnew_1 1 rfl (tk_pi G kX6 dX6_makeAnew_2 wF_X6_15 k0 gP_6_0 (tk_aload_n G dX6_makeAnew_5 0 rfl (tk_iload_n G dX6_makeAnew_6 1 rfl k))))) ?_
  have hJ15 : ∀ (g15 : tkH) (t15_0 : Int32), tkS E X 3 0 0 (tkZv E X) 15 [(0, .ref (e_ad E a0))] [.int t15_0, .ref (e_ad E a0)] g15 (f_X6_makeAnew_J15 a0 g15 t15_0) := by
    intro g15 t15_0
    unfold f_X6_makeAnew_J15
    refine s_v (fun _ k => tk_pi G kX6 dX6_makeAnew_15 wF_X6_19 k0 gP_6_1 (tk_aload_n G dX6_makeAnew_18 0 rfl (tk_gr G kX6 dX6_makeAnew_19 wF_X6_9 k0 gR_6_2 (tk_iconst G dX6_makeAnew_22 cI_0 k)))) ?_
    refine s_callSV (As := [.ref (e_ad E (fld a0 2)), .int 0]) G dX6_makeAnew_23 wY_J7_fill_53178 wM_X6_22 wI_J7_fill_53178 (tk_rm hR (by decide) (by decide)) (c_J7_fill_53178 E (tkup g15 a0 1 t15_0) (fld a0 2) 0 (kF_6_2 k0)) rfl rfl (Nat.le_of_ble_eq_true rfl) ⟨Nat.zero_le _, Nat.zero_le _⟩ (fun x23 => ?_)
    exact s_vret G dX6_makeAnew_26
  refine s_if_ne (tgt := 14) G dX6_makeAnew_7 (by decide) (fun q7 => ?_) (fun q7 => ?_)
  ·
    refine s_v (fun _ k => tk_iconst G dX6_makeAnew_10 cI_0 (tk_goto (tgt := 15) G dX6_makeAnew_11 (by decide) k)) ?_
    refine s_sub [0] (al' := [(0, .ref (e_ad E a0))]) rfl ?_
    exact hJ15 _ _
  ·
    refine s_v (fun _ k => tk_iload_n G dX6_makeAnew_14 2 rfl k) ?_
    refine s_sub [0] (al' := [(0, .ref (e_ad E a0))]) rfl ?_
    exact hJ15 _ _
theorem c_X6_makeAnew (E : tkE) (h : tkH) (a0 : Nat) (a1 : Int32) (a2 : Int32) (k0 : kd a0 = 9) : ∀ x, f_X6_makeAnew h a0 a1 a2 = some x → tkM E yX6_makeAnew cX6_makeAnew 3 none 1 tkF [.ref (e_ad E a0), .int a1, .int a2] h none x := fun x hx => tkM_of (by decide) (Nat.le_of_ble_eq_true rfl) (fun _ hR G => w_X6_makeAnew hR G h a0 a1 a2 k0 x hx)
