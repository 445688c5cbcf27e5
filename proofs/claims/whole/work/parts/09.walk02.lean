set_option maxRecDepth 100000 in
set_option maxHeartbeats 4000000 in
theorem w_X6_stepAt {E : tkE} {X : tkX} (hR : x_R X = tkR 1) (G : tkG E X cX6_stepAt 2 RX6 (some .int)) (h : tkH) (a0 : Nat) (a1 : Int32) (k0 : kd a0 = 9) : tkS E X 2 0 0 (tkZi E X) 0 [(0, .ref (e_ad E a0)), (1, .int a1)] [] h (f_X6_stepAt h a0 a1) := by
  unfold f_X6_stepAt
  refine s_v (fun _ k => tk_aload_n G dX6_stepAt_0 0 rfl (tk_gr G kX6 dX6_stepAt_1 wF_X6_9 k0 gR_6_2 (tk_iconst G dX6_stepAt_4 cI_3 (tk_iload_n G dX6_stepAt_5 1 rfl (tk_imul G dX6_stepAt_6 k))))) ?_
  refine s_iald G dX6_stepAt_7 (kF_6_2 k0) (fun v7 => ?_)
  refine s_v (fun _ k => tk_aload_n G dX6_stepAt_8 0 rfl (tk_gr G kX6 dX6_stepAt_9 wF_X6_9 k0 gR_6_2 (tk_iconst G dX6_stepAt_12 cI_3 (tk_iload_n G dX6_stepAt_13 1 rfl (tk_imul G dX6_stepAt_14 (tk_iconst G dX6_stepAt_15 cI_1 (tk_iadd G dX6_stepAt_16 k))))))) ?_
  refine s_iald G dX6_stepAt_17 (kF_6_2 k0) (fun v17 => ?_)
  refine s_v (fun _ k => tk_aload_n G dX6_stepAt_18 0 rfl (tk_gr G kX6 dX6_stepAt_19 wF_X6_9 k0 gR_6_2 (tk_iconst G dX6_stepAt_22 cI_3 (tk_iload_n G dX6_stepAt_23 1 rfl (tk_imul G dX6_stepAt_24 (tk_iconst G dX6_stepAt_25 cI_2 (tk_iadd G dX6_stepAt_26 k))))))) ?_
  refine s_iald G dX6_stepAt_27 (kF_6_2 k0) (fun v27 => ?_)
  refine s_callSNI (As := [.int v7, .int v17, .int v27]) G dX6_stepAt_28 wY_X8_packed wM_X6_37 wI_X8_packed (tk_rm hR (by decide) (by decide)) (c_X8_packed E h v7 v17 v27) rfl rfl (Nat.le_of_ble_eq_true rfl) ⟨Nat.zero_le _, Nat.zero_le _⟩ (fun x28 => ?_)
  exact s_iret G dX6_stepAt_31
theorem c_X6_stepAt (E : tkE) (h : tkH) (a0 : Nat) (a1 : Int32) (k0 : kd a0 = 9) : ∀ x, f_X6_stepAt h a0 a1 = some x → tkM E yX6_stepAt cX6_stepAt 2 (some .int) 1 tkF [.ref (e_ad E a0), .int a1] h (some (.int x.1)) x.2 := fun x hx => tkM_of (by decide) (Nat.le_of_ble_eq_true rfl) (fun _ hR G => w_X6_stepAt hR G h a0 a1 k0 x hx)
set_option maxRecDepth 100000 in
set_option maxHeartbeats 4000000 in
theorem w_X7_addBranch {E : tkE} {X : tkX} (hR : x_R X = tkR 1) (G : tkG E X cX7_addBranch 8 RX7 none) (h : tkH) (a0 : Nat) (a1 : Nat) (a2 : Int32) (k0 : kd a0 = 10) (k1 : kd a1 = 0) : tkS E X 8 0 0 (tkZv E X) 0 [(0, .ref (e_ad E a0)), (1, .ref (e_ad E a1)), (2, .int a2)] [] h (f_X7_addBranch h a0 a1 a2) := by
  unfold f_X7_addBranch
  refine s_v (fun _ k => tk_iconst G dX7_addBranch_0 cI_m1 (tk_istore_n (al' := [(3, .int (-1)), (0, .ref (e_ad E a0)), (1, .ref (e_ad E a1)), (2, .int a2)]) G dX7_addBranch_1 (by decide) rfl (tk_iconst G dX7_addBranch_2 cI_0 (tk_istore (al' := [(4, .int 0), (3, .int (-1)), (0, .ref (e_ad E a0)), (1, .ref (e_ad E a1)), (2, .int a2)]) G dX7_addBranch_3 (by decide) rfl k)))) ?_
  have hX111 : ∀ (gz111 : tkH) (z111_3 : Int32), tkS E X 8 0 0 (tkZv E X) 111 [(0, .ref (e_ad E a0)), (1, .ref (e_ad E a1)), (3, .int z111_3)] [] gz111 (if z111_3 < 0 then (some gz111) else ((wrI gz111 (fld a0 1) (gz111 a0 2) (((z111_3 / 10) * 16) + (z111_3 - z111_3 / 10 * 10))).bind fun h143 => (rdI (tkup h143 a0 2 ((h143 a0 2) + 1)) a1 z111_3).bind fun v161 => (rdI (tkup (tkup h143 a0 2 ((h143 a0 2) + 1)) a0 3 (((tkup h143 a0 2 ((h143 a0 2) + 1)) a0 3) + v161)) (fld a0 0) (z111_3 / 10)).bind fun v173 => (rdI (tkup (tkup h143 a0 2 ((h143 a0 2) + 1)) a0 3 (((tkup h143 a0 2 ((h143 a0 2) + 1)) a0 3) + v161)) (fld a0 0) (z111_3 - z111_3 / 10 * 10)).bind fun v180 => (f_X7_joinParts (tkup (tkup h143 a0 2 ((h143 a0 2) + 1)) a0 3 (((tkup h143 a0 2 ((h143 a0 2) + 1)) a0 3) + v161)) a0 v173 v180).bind fun x181 => some x181)) := by
    intro gz111 z111_3
    refine s_v (fun _ k => tk_iload_n G dX7_addBranch_111 2 rfl k) ?_
    refine s_if_lt (tgt := 184) G dX7_addBranch_112 (by decide) (fun q112 => ?_) (fun q112 => ?_)
    ·
      exact s_vret G dX7_addBranch_184
    ·
      refine s_v (fun _ k => tk_iload_n G dX7_addBranch_115 2 rfl (tk_bipush G dX7_addBranch_116 cB_10 (tk_idiv G dX7_addBranch_118 (by decide) (tk_istore (al' := [(4, .int (z111_3 / 10)), (0, .ref (e_ad E a0)), (1, .ref (e_ad E a1)), (3, .int z111_3)]) G dX7_addBranch_119 (by decide) rfl (tk_iload_n G dX7_addBranch_121 3 rfl (tk_bipush G dX7_addBranch_122 cB_10 (tk_irem G dX7_addBranch_124 (by decide) (tk_istore (al' := [(5, .int (z111_3 - z111_3 / 10 * 10)), (4, .int (z111_3 / 10)), (0, .ref (e_ad E a0)), (1, .ref (e_ad E a1)), (3, .int z111_3)]) G dX7_addBranch_125 (by decide) rfl (tk_aload_n G dX7_addBranch_127 2 rfl (tk_gr G kX7 dX7_addBranch_128 wF_X7_15 k0 gR_7_1 (tk_aload_n G dX7_addBranch_131 2 rfl (tk_gi G kX7 dX7_addBranch_132 wF_X7_18 k0 gI_7_2 (tk_iload G dX7_addBranch_135 1 rfl (tk_bipush G dX7_addBranch_137 cB_16 (tk_imul G dX7_addBranch_139 (tk_iload G dX7_addBranch_140 0 rfl (tk_iadd G dX7_addBranch_142 k))))))))))))))))) ?_
      refine s_iast G dX7_addBranch_143 (kF_7_1 k0) (fun h143 => ?_)
      refine s_v (fun _ k => tk_aload_n G dX7_addBranch_144 2 rfl (tk_dup G dX7_addBranch_145 rfl (tk_gi G kX7 dX7_addBranch_146 wF_X7_18 k0 gI_7_2 (tk_iconst G dX7_addBranch_149 cI_1 (tk_iadd G dX7_addBranch_150 (tk_pi G kX7 dX7_addBranch_151 wF_X7_18 k0 gP_7_2 (tk_aload_n G dX7_addBranch_154 2 rfl (tk_dup G dX7_addBranch_155 rfl (tk_gi G kX7 dX7_addBranch_156 wF_X7_22 k0 gI_7_3 (tk_aload_n G dX7_addBranch_159 3 rfl (tk_iload_n G dX7_addBranch_160 4 rfl k))))))))))) ?_
      refine s_iald G dX7_addBranch_161 k1 (fun v161 => ?_)
      refine s_v (fun _ k => tk_iadd G dX7_addBranch_162 (tk_pi G kX7 dX7_addBranch_163 wF_X7_22 k0 gP_7_3 (tk_aload_n G dX7_addBranch_166 2 rfl (tk_aload_n G dX7_addBranch_167 2 rfl (tk_gr G kX7 dX7_addBranch_168 wF_X7_9 k0 gR_7_0 (tk_iload G dX7_addBranch_171 1 rfl k)))))) ?_
      refine s_iald G dX7_addBranch_173 (kF_7_0 k0) (fun v173 => ?_)
      refine s_v (fun _ k => tk_aload_n G dX7_addBranch_174 2 rfl (tk_gr G kX7 dX7_addBranch_175 wF_X7_9 k0 gR_7_0 (tk_iload G dX7_addBranch_178 0 rfl k))) ?_
      refine s_iald G dX7_addBranch_180 (kF_7_0 k0) (fun v180 => ?_)
      refine s_callVV (As := [.int v173, .int v180]) G dX7_addBranch_181 wY_X7_joinParts wM_X7_39 wI_X7_joinParts wS_X7_joinParts (tk_rm hR (by decide) (by decide)) kX7 k0 (by decide) (c_X7_joinParts E (tkup (tkup h143 a0 2 ((h143 a0 2) + 1)) a0 3 (((tkup h143 a0 2 ((h143 a0 2) + 1)) a0 3) + v161)) a0 v173 v180 k0) rfl rfl (Nat.le_of_ble_eq_true rfl) ⟨Nat.zero_le _, Nat.zero_le _⟩ (fun x181 => ?_)
      exact s_vret G dX7_addBranch_184
  refine s_sub [2, 3, 4, 1, 0] (al' := [(0, .ref (e_ad E a0)), (1, .ref (e_ad E a1)), (2, .int a2), (3, .int (-1)), (4, .int 0)]) rfl ?_
  unfold f_X7_addBranch_L5
  refine s_lp2 (al := fun y5_3 y5_4 => [(0, .ref (e_ad E a0)), (1, .ref (e_ad E a1)), (2, .int a2), (3, .int y5_3), (4, .int y5_4)]) (fun kk5 hL5 g5 y5_3 y5_4 => ?_) _ _ _ _
  refine s_v (fun _ k => tk_iload G dX7_addBranch_5 4 rfl (tk_bipush G dX7_addBranch_7 cB_10 k)) ?_
  refine s_icmp_ge (tgt := 111) G dX7_addBranch_9 (by decide) (fun q9 => ?_) (fun q9 => ?_)
  ·
    refine s_sub [0, 1, 3] (al' := [(0, .ref (e_ad E a0)), (1, .ref (e_ad E a1)), (3, .int y5_3)]) rfl ?_
    exact hX111 _ _
  ·
    refine s_v (fun _ k => tk_iload G dX7_addBranch_12 4 rfl (tk_iconst G dX7_addBranch_14 cI_1 (tk_iadd G dX7_addBranch_15 (tk_istore (al' := [(5, .int (y5_4 + 1)), (0, .ref (e_ad E a0)), (1, .ref (e_ad E a1)), (2, .int a2), (3, .int y5_3), (4, .int y5_4)]) G dX7_addBranch_16 (by decide) rfl k)))) ?_
    have hX105 : ∀ (gz105 : tkH) (z105_3 : Int32), tkS E X 8 0 0 (tkZv E X) 105 [(0, .ref (e_ad E a0)), (1, .ref (e_ad E a1)), (2, .int a2), (3, .int z105_3), (4, .int y5_4)] [] gz105 (kk5 gz105 z105_3 (y5_4 + 1)) := by
      intro gz105 z105_3
      refine s_v (fun _ k => tk_iinc (al' := [(4, .int (y5_4 + 1)), (0, .ref (e_ad E a0)), (1, .ref (e_ad E a1)), (2, .int a2), (3, .int z105_3)]) G dX7_addBranch_105 4 rfl (ci_1 _) (by decide) rfl (tk_goto (tgt := 5) G dX7_addBranch_108 (by decide) k)) ?_
      refine s_sub [1, 2, 3, 4, 0] (al' := [(0, .ref (e_ad E a0)), (1, .ref (e_ad E a1)), (2, .int a2), (3, .int z105_3), (4, .int (y5_4 + 1))]) rfl ?_
      exact hL5 _ _ _
    refine s_sub [1, 2, 3, 4, 5, 0] (al' := [(0, .ref (e_ad E a0)), (1, .ref (e_ad E a1)), (2, .int a2), (3, .int y5_3), (4, .int y5_4), (5, .int (y5_4 + 1))]) rfl ?_
    unfold f_X7_addBranch_L18
    refine s_lp2 (al := fun y18_3 y18_5 => [(0, .ref (e_ad E a0)), (1, .ref (e_ad E a1)), (2, .int a2), (3, .int y18_3), (4, .int y5_4), (5, .int y18_5)]) (fun kk18 hL18 g18 y18_3 y18_5 => ?_) _ _ _ _
    refine s_v (fun _ k => tk_iload G dX7_addBranch_18 5 rfl (tk_bipush G dX7_addBranch_20 cB_10 k)) ?_
    refine s_icmp_ge (tgt := 105) G dX7_addBranch_22 (by decide) (fun q22 => ?_) (fun q22 => ?_)
    ·
      refine s_sub [0, 1, 2, 3, 4] (al' := [(0, .ref (e_ad E a0)), (1, .ref (e_ad E a1)), (2, .int a2), (3, .int y18_3), (4, .int y5_4)]) rfl ?_
      exact hX105 _ _
    ·
      refine s_v (fun _ k => tk_iload_n G dX7_addBranch_25 2 rfl (tk_iload G dX7_addBranch_26 4 rfl k)) ?_
      refine s_callSNI (As := [.int a2, .int y5_4]) G dX7_addBranch_28 wY_X8_isInHeap wM_X7_35 wI_X8_isInHeap (tk_rm hR (by decide) (by decide)) (c_X8_isInHeap E g18 a2 y5_4) rfl rfl (Nat.le_of_ble_eq_true rfl) ⟨Nat.zero_le _, Nat.zero_le _⟩ (fun x28 => ?_)
      have hJ48 : ∀ (g48 : tkH) (t48_0 : Int32), tkS E X 8 0 0 (tkZv E X) 48 [(0, .ref (e_ad E a0)), (1, .ref (e_ad E a1)), (2, .int a2), (3, .int y18_3), (4, .int y5_4), (5, .int y18_5)] [.int t48_0] g48 (f_X7_addBranch_J48 kk18 y18_3 y18_5 a0 y5_4 a1 g48 t48_0) := by
        intro g48 t48_0
        unfold f_X7_addBranch_J48
        refine s_v (fun _ k => tk_istore (al' := [(6, .int t48_0), (0, .ref (e_ad E a0)), (1, .ref (e_ad E a1)), (2, .int a2), (3, .int y18_3), (4, .int y5_4), (5, .int y18_5)]) G dX7_addBranch_48 (by decide) rfl (tk_iload G dX7_addBranch_50 5 rfl (tk_bipush G dX7_addBranch_52 cB_10 (tk_imul G dX7_addBranch_54 (tk_iload G dX7_addBranch_55 6 rfl (tk_iadd G dX7_addBranch_57 (tk_istore (al' := [(7, .int ((y5_4 * 10) + y18_5)), (6, .int t48_0), (0, .ref (e_ad E a0)), (1, .ref (e_ad E a1)), (2, .int a2), (3, .int y18_3), (4, .int y5_4), (5, .int y18_5)]) G dX7_addBranch_58 (by decide) rfl (tk_iload G dX7_addBranch_60 1 rfl k)))))))) ?_
        refine s_if_eq (tgt := 99) G dX7_addBranch_62 (by decide) (fun q62 => ?_) (fun q62 => ?_)
        ·
          refine s_v (fun _ k => tk_iinc (al' := [(5, .int (y18_5 + 1)), (7, .int ((y5_4 * 10) + y18_5)), (6, .int t48_0), (0, .ref (e_ad E a0)), (1, .ref (e_ad E a1)), (2, .int a2), (3, .int y18_3), (4, .int y5_4)]) G dX7_addBranch_99 7 rfl (ci_1 _) (by decide) rfl (tk_goto (tgt := 18) G dX7_addBranch_102 (by decide) k)) ?_
          refine s_sub [3, 4, 5, 6, 7, 0] (al' := [(0, .ref (e_ad E a0)), (1, .ref (e_ad E a1)), (2, .int a2), (3, .int y18_3), (4, .int y5_4), (5, .int (y18_5 + 1))]) rfl ?_
          exact hL18 _ _ _
        ·
          refine s_v (fun _ k => tk_aload_n G dX7_addBranch_65 2 rfl (tk_gr G kX7 dX7_addBranch_66 wF_X7_9 k0 gR_7_0 (tk_iload G dX7_addBranch_69 6 rfl k))) ?_
          refine s_iald G dX7_addBranch_71 (kF_7_0 k0) (fun v71 => ?_)
          refine s_v (fun _ k => tk_aload_n G dX7_addBranch_72 2 rfl (tk_gr G kX7 dX7_addBranch_73 wF_X7_9 k0 gR_7_0 (tk_iload G dX7_addBranch_76 7 rfl k))) ?_
          refine s_iald G dX7_addBranch_78 (kF_7_0 k0) (fun v78 => ?_)
          refine s_icmp_eq (tgt := 99) G dX7_addBranch_79 (by decide) (fun q79 => ?_) (fun q79 => ?_)
          ·
            refine s_v (fun _ k => tk_iinc (al' := [(5, .int (y18_5 + 1)), (7, .int ((y5_4 * 10) + y18_5)), (6, .int t48_0), (0, .ref (e_ad E a0)), (1, .ref (e_ad E a1)), (2, .int a2), (3, .int y18_3), (4, .int y5_4)]) G dX7_addBranch_99 7 rfl (ci_1 _) (by decide) rfl (tk_goto (tgt := 18) G dX7_addBranch_102 (by decide) k)) ?_
            refine s_sub [3, 4, 5, 6, 7, 0] (al' := [(0, .ref (e_ad E a0)), (1, .ref (e_ad E a1)), (2, .int a2), (3, .int y18_3), (4, .int y5_4), (5, .int (y18_5 + 1))]) rfl ?_
            exact hL18 _ _ _
          ·
            refine s_v (fun _ k => tk_iload_n G dX7_addBranch_82 5 rfl k) ?_
            refine s_if_lt (tgt := 96) G dX7_addBranch_83 (by decide) (fun q83 => ?_) (fun q83 => ?_)
            ·
              refine s_v (fun _ k => tk_iload G dX7_addBranch_96 0 rfl (tk_istore_n (al' := [(3, .int ((y5_4 * 10) + y18_5)), (7, .int ((y5_4 * 10) + y18_5)), (6, .int t48_0), (0, .ref (e_ad E a0)), (1, .ref (e_ad E a1)), (2, .int a2), (4, .int y5_4), (5, .int y18_5)]) G dX7_addBranch_98 (by decide) rfl (tk_iinc (al' := [(5, .int (y18_5 + 1)), (3, .int ((y5_4 * 10) + y18_5)), (7, .int ((y5_4 * 10) + y18_5)), (6, .int t48_0), (0, .ref (e_ad E a0)), (1, .ref (e_ad E a1)), (2, .int a2), (4, .int y5_4)]) G dX7_addBranch_99 7 rfl (ci_1 _) (by decide) rfl (tk_goto (tgt := 18) G dX7_addBranch_102 (by decide) k)))) ?_
              refine s_sub [4, 5, 6, 1, 7, 0] (al' := [(0, .ref (e_ad E a0)), (1, .ref (e_ad E a1)), (2, .int a2), (3, .int ((y5_4 * 10) + y18_5)), (4, .int y5_4), (5, .int (y18_5 + 1))]) rfl ?_
              exact hL18 _ _ _
            ·
              refine s_v (fun _ k => tk_aload_n G dX7_addBranch_86 3 rfl (tk_iload G dX7_addBranch_87 0 rfl k)) ?_
              refine s_iald G dX7_addBranch_89 k1 (fun v89 => ?_)
              refine s_v (fun _ k => tk_aload_n G dX7_addBranch_90 3 rfl (tk_iload_n G dX7_addBranch_91 5 rfl k)) ?_
              refine s_iald G dX7_addBranch_92 k1 (fun v92 => ?_)
              refine s_icmp_ge (tgt := 99) G dX7_addBranch_93 (by decide) (fun q93 => ?_) (fun q93 => ?_)
              ·
                refine s_v (fun _ k => tk_iinc (al' := [(5, .int (y18_5 + 1)), (7, .int ((y5_4 * 10) + y18_5)), (6, .int t48_0), (0, .ref (e_ad E a0)), (1, .ref (e_ad E a1)), (2, .int a2), (3, .int y18_3), (4, .int y5_4)]) G dX7_addBranch_99 7 rfl (ci_1 _) (by decide) rfl (tk_goto (tgt := 18) G dX7_addBranch_102 (by decide) k)) ?_
                refine s_sub [3, 4, 5, 6, 7, 0] (al' := [(0, .ref (e_ad E a0)), (1, .ref (e_ad E a1)), (2, .int a2), (3, .int y18_3), (4, .int y5_4), (5, .int (y18_5 + 1))]) rfl ?_
                exact hL18 _ _ _
              ·
                refine s_v (fun _ k => tk_iload G dX7_addBranch_96 0 rfl (tk_istore_n (al' := [(3, .int ((y5_4 * 10) + y18_5)), (7, .int ((y5_4 * 10) + y18_5)), (6, .int t48_0), (0, .ref (e_ad E a0)), (1, .ref (e_ad E a1)), (2, .int a2), (4, .int y5_4), (5, .int y18_5)]) G dX7_addBranch_98 (by decide) rfl (tk_iinc (al' := [(5, .int (y18_5 + 1)), (3, .int ((y5_4 * 10) + y18_5)), (7, .int ((y5_4 * 10) + y18_5)), (6, .int t48_0), (0, .ref (e_ad E a0)), (1, .ref (e_ad E a1)), (2, .int a2), (4, .int y5_4)]) G dX7_addBranch_99 7 rfl (ci_1 _) (by decide) rfl (tk_goto (tgt := 18) G dX7_addBranch_102 (by decide) k)))) ?_
                refine s_sub [4, 5, 6, 1, 7, 0] (al' := [(0, .ref (e_ad E a0)), (1, .ref (e_ad E a1)), (2, .int a2), (3, .int ((y5_4 * 10) + y18_5)), (4, .int y5_4), (5, .int (y18_5 + 1))]) rfl ?_
                exact hL18 _ _ _
      have hJ47 : ∀ (g47 : tkH), tkS E X 8 0 0 (tkZv E X) 47 [(0, .ref (e_ad E a0)), (1, .ref (e_ad E a1)), (2, .int a2), (3, .int y18_3), (4, .int y5_4), (5, .int y18_5)] [] g47 (f_X7_addBranch_J47 kk18 y18_3 y18_5 a0 y5_4 a1 g47) := by
        intro g47
        unfold f_X7_addBranch_J47
        refine s_v (fun _ k => tk_iconst G dX7_addBranch_47 cI_0 k) ?_
        exact hJ48 _ _
      refine s_if_eq (tgt := 47) G dX7_addBranch_31 (by decide) (fun q31 => ?_) (fun q31 => ?_)
      ·
        exact hJ47 _
      ·
        refine s_v (fun _ k => tk_iload_n G dX7_addBranch_34 2 rfl (tk_iload G dX7_addBranch_35 5 rfl k)) ?_
        refine s_callSNI (As := [.int a2, .int y18_5]) G dX7_addBranch_37 wY_X8_isInHeap wM_X7_35 wI_X8_isInHeap (tk_rm hR (by decide) (by decide)) (c_X8_isInHeap E x28.2 a2 y18_5) rfl rfl (Nat.le_of_ble_eq_true rfl) ⟨Nat.zero_le _, Nat.zero_le _⟩ (fun x37 => ?_)
        refine s_if_eq (tgt := 47) G dX7_addBranch_40 (by decide) (fun q40 => ?_) (fun q40 => ?_)
        ·
          exact hJ47 _
        ·
          refine s_v (fun _ k => tk_iconst G dX7_addBranch_43 cI_1 (tk_goto (tgt := 48) G dX7_addBranch_44 (by decide) k)) ?_
          exact hJ48 _ _
theorem c_X7_addBranch (E : tkE) (h : tkH) (a0 : Nat) (a1 : Nat) (a2 : Int32) (k0 : kd a0 = 10) (k1 : kd a1 = 0) : ∀ x, f_X7_addBranch h a0 a1 a2 = some x → tkM E yX7_addBranch cX7_addBranch 8 none 1 tkF [.ref (e_ad E a0), .ref (e_ad E a1), .int a2] h none x := fun x hx => tkM_of (by decide) (Nat.le_of_ble_eq_true rfl) (fun _ hR G => w_X7_addBranch hR G h a0 a1 a2 k0 k1 x hx)
set_option maxRecDepth 100000 in
set_option maxHeartbeats 4000000 in
theorem w_X8_all {E : tkE} {X : tkX} (hR : x_R X = tkR 1) (G : tkG E X cX8_all 2 RX8 (some .int)) (h : tkH) (a0 : Nat) (a1 : Int32) (k0 : kd a0 = 11) : tkS E X 2 0 0 (tkZi E X) 0 [(0, .ref (e_ad E a0)), (1, .int a1)] [] h (f_X8_all h a0 a1) := by
  unfold f_X8_all
  refine s_v (fun _ k => tk_iload_n G dX8_all_0 1 rfl k) ?_
  refine s_tab3 (t0 := 28) (t1 := 36) (t2 := 44) (td := 49) G dX8_all_1 (by decide) ?_ ?_ ?_ ?_
  ·
    refine s_v (fun _ k => tk_aload_n G dX8_all_28 0 rfl (tk_gr G kX8 dX8_all_29 wF_X8_10 k0 gR_8_0 (tk_gi G kX0 dX8_all_32 wF_X8_64 (kF_8_0 k0) gI_0_0 k))) ?_
    exact s_iret G dX8_all_35
  ·
    refine s_v (fun _ k => tk_aload_n G dX8_all_36 0 rfl (tk_gr G kX8 dX8_all_37 wF_X8_10 k0 gR_8_0 k)) ?_
    refine s_callVI (As := []) G dX8_all_40 wY_X0_howManySteps wM_X8_286 wI_X0_howManySteps wS_X0_howManySteps (tk_rm hR (by decide) (by decide)) kX0 (kF_8_0 k0) (by decide) (c_X0_howManySteps E h (fld a0 0) (kF_8_0 k0)) rfl rfl (Nat.le_of_ble_eq_true rfl) ⟨Nat.zero_le _, Nat.zero_le _⟩ (fun x40 => ?_)
    exact s_iret G dX8_all_43
  ·
    refine s_v (fun _ k => tk_aload_n G dX8_all_44 0 rfl (tk_gi G kX8 dX8_all_45 wF_X8_51 k0 gI_8_6 k)) ?_
    exact s_iret G dX8_all_48
  ·
    refine s_v (fun _ k => tk_aload_n G dX8_all_49 0 rfl (tk_ldc G dX8_all_50 wK_X8_59 k)) ?_
    refine s_callVI (As := [.int (-100001)]) G dX8_all_52 wY_X8_finding wM_X8_60 wI_X8_finding wS_X8_finding (tk_rm hR (by decide) (by decide)) kX8 k0 (by decide) (c_X8_finding E h a0 (-100001) k0) rfl rfl (Nat.le_of_ble_eq_true rfl) ⟨Nat.zero_le _, Nat.zero_le _⟩ (fun x52 => ?_)
    exact s_iret G dX8_all_55
theorem c_X8_all (E : tkE) (h : tkH) (a0 : Nat) (a1 : Int32) (k0 : kd a0 = 11) : ∀ x, f_X8_all h a0 a1 = some x → tkM E yX8_all cX8_all 2 (some .int) 1 tkF [.ref (e_ad E a0), .int a1] h (some (.int x.1)) x.2 := fun x hx => tkM_of (by decide) (Nat.le_of_ble_eq_true rfl) (fun _ hR G => w_X8_all hR G h a0 a1 k0 x hx)
set_option maxRecDepth 100000 in
set_option maxHeartbeats 4000000 in
theorem w_X8_copy {E : tkE} {X : tkX} (hR : x_R X = tkR 1) (G : tkG E X cX8_copy 6 RX8 (some .int)) (h : tkH) (a0 : Nat) (a1 : Int32) (a2 : Int32) (a3 : Int32) (a4 : Int32) (a5 : Int32) (k0 : kd a0 = 11) : tkS E X 6 0 0 (tkZi E X) 0 [(0, .ref (e_ad E a0)), (1, .int a1), (2, .int a2), (3, .int a3), (4, .int a4), (5, .int a5)] [] h (f_X8_copy h a0 a1 a2 a3 a4 a5) := by
  unfold f_X8_copy
  refine s_v (fun _ k => tk_iload_n G dX8_copy_0 1 rfl (tk_iconst G dX8_copy_1 cI_4 k)) ?_
  refine s_callSI (As := [.int a1, .int 4]) G dX8_copy_2 wY_X8_isWithin wM_X8_55 wI_X8_isWithin (tk_rm hR (by decide) (by decide)) (c_X8_isWithin E h a1 4) rfl rfl (Nat.le_of_ble_eq_true rfl) ⟨Nat.zero_le _, Nat.zero_le _⟩ (fun x2 => ?_)
  have hJ16 : ∀ (g16 : tkH), tkS E X 6 0 0 (tkZi E X) 16 [(0, .ref (e_ad E a0))] [] g16 (f_X8_copy_J16 a0 g16) := by
    intro g16
    unfold f_X8_copy_J16
    refine s_v (fun _ k => tk_aload_n G dX8_copy_16 0 rfl (tk_ldc G dX8_copy_17 wK_X8_59 k)) ?_
    refine s_callVI (As := [.int (-100001)]) G dX8_copy_19 wY_X8_finding wM_X8_60 wI_X8_finding wS_X8_finding (tk_rm hR (by decide) (by decide)) kX8 k0 (by decide) (c_X8_finding E g16 a0 (-100001) k0) rfl rfl (Nat.le_of_ble_eq_true rfl) ⟨Nat.zero_le _, Nat.zero_le _⟩ (fun x19 => ?_)
    exact s_iret G dX8_copy_22
  refine s_if_eq (tgt := 16) G dX8_copy_5 (by decide) (fun q5 => ?_) (fun q5 => ?_)
  ·
    refine s_sub [0] (al' := [(0, .ref (e_ad E a0))]) rfl ?_
    exact hJ16 _
  ·
    refine s_v (fun _ k => tk_iload_n G dX8_copy_8 3 rfl (tk_iconst G dX8_copy_9 cI_4 k)) ?_
    refine s_callSI (As := [.int a3, .int 4]) G dX8_copy_10 wY_X8_isWithin wM_X8_55 wI_X8_isWithin (tk_rm hR (by decide) (by decide)) (c_X8_isWithin E x2.2 a3 4) rfl rfl (Nat.le_of_ble_eq_true rfl) ⟨Nat.zero_le _, Nat.zero_le _⟩ (fun x10 => ?_)
    refine s_if_ne (tgt := 23) G dX8_copy_13 (by decide) (fun q13 => ?_) (fun q13 => ?_)
    ·
      refine s_sub [0] (al' := [(0, .ref (e_ad E a0))]) rfl ?_
      exact hJ16 _
    ·
      refine s_v (fun _ k => tk_aload_n G dX8_copy_23 0 rfl (tk_gr G kX8 dX8_copy_24 wF_X8_46 k0 gR_8_5 (tk_iload_n G dX8_copy_27 1 rfl k))) ?_
      refine s_aaldS G dX8_copy_28 (kF_8_5 k0) (fun b28 kb28 => ?_)
      refine s_callVI (As := []) G dX8_copy_29 wY_X6_isMissing wM_X8_248 wI_X6_isMissing wS_X6_isMissing (tk_rm hR (by decide) (by decide)) kX6 kb28 (by decide) (c_X6_isMissing E x10.2 b28 kb28) rfl rfl (Nat.le_of_ble_eq_true rfl) ⟨Nat.zero_le _, Nat.zero_le _⟩ (fun x29 => ?_)
      have hJ47 : ∀ (g47 : tkH), tkS E X 6 0 0 (tkZi E X) 47 [(0, .ref (e_ad E a0))] [] g47 (f_X8_copy_J47 a0 g47) := by
        intro g47
        unfold f_X8_copy_J47
        refine s_v (fun _ k => tk_aload_n G dX8_copy_47 0 rfl (tk_ldc G dX8_copy_48 wK_X8_252 k)) ?_
        refine s_callVI (As := [.int (-100002)]) G dX8_copy_50 wY_X8_finding wM_X8_60 wI_X8_finding wS_X8_finding (tk_rm hR (by decide) (by decide)) kX8 k0 (by decide) (c_X8_finding E g47 a0 (-100002) k0) rfl rfl (Nat.le_of_ble_eq_true rfl) ⟨Nat.zero_le _, Nat.zero_le _⟩ (fun x50 => ?_)
        exact s_iret G dX8_copy_53
      refine s_if_ne (tgt := 47) G dX8_copy_32 (by decide) (fun q32 => ?_) (fun q32 => ?_)
      ·
        refine s_v (fun _ k => tk_aload_n G dX8_copy_35 0 rfl (tk_gr G kX8 dX8_copy_36 wF_X8_46 k0 gR_8_5 (tk_iload_n G dX8_copy_39 3 rfl k))) ?_
        refine s_aaldS G dX8_copy_40 (kF_8_5 k0) (fun b40 kb40 => ?_)
        refine s_callVI (As := []) G dX8_copy_41 wY_X6_isMissing wM_X8_248 wI_X6_isMissing wS_X6_isMissing (tk_rm hR (by decide) (by decide)) kX6 kb40 (by decide) (c_X6_isMissing E x29.2 b40 kb40) rfl rfl (Nat.le_of_ble_eq_true rfl) ⟨Nat.zero_le _, Nat.zero_le _⟩ (fun x41 => ?_)
        refine s_if_eq (tgt := 54) G dX8_copy_44 (by decide) (fun q44 => ?_) (fun q44 => ?_)
        ·
          refine s_v (fun _ k => tk_aload_n G dX8_copy_54 0 rfl (tk_gr G kX8 dX8_copy_55 wF_X8_46 k0 gR_8_5 (tk_iload_n G dX8_copy_58 1 rfl k))) ?_
          refine s_aaldS G dX8_copy_59 (kF_8_5 k0) (fun b59 kb59 => ?_)
          refine s_v (fun _ k => tk_gi G kX6 dX8_copy_60 wF_X8_256 kb59 gI_6_0 (tk_aload_n G dX8_copy_63 0 rfl (tk_gr G kX8 dX8_copy_64 wF_X8_46 k0 gR_8_5 (tk_iload_n G dX8_copy_67 3 rfl k)))) ?_
          refine s_aaldS G dX8_copy_68 (kF_8_5 k0) (fun b68 kb68 => ?_)
          refine s_v (fun _ k => tk_gi G kX6 dX8_copy_69 wF_X8_256 kb68 gI_6_0 k) ?_
          refine s_icmp_eq (tgt := 82) G dX8_copy_72 (by decide) (fun q72 => ?_) (fun q72 => ?_)
          ·
            refine s_v (fun _ k => tk_aload_n G dX8_copy_82 0 rfl (tk_gr G kX8 dX8_copy_83 wF_X8_46 k0 gR_8_5 (tk_iload_n G dX8_copy_86 1 rfl k))) ?_
            refine s_aaldS G dX8_copy_87 (kF_8_5 k0) (fun b87 kb87 => ?_)
            refine s_v (fun _ k => tk_iload_n G dX8_copy_88 2 rfl (tk_iload G dX8_copy_89 5 rfl k)) ?_
            refine s_callVI (As := [.int a2, .int a5]) G dX8_copy_91 wY_X6_holds wM_X8_259 wI_X6_holds wS_X6_holds (tk_rm hR (by decide) (by decide)) kX6 kb87 (by decide) (c_X6_holds E x41.2 b87 a2 a5 kb87) rfl rfl (Nat.le_of_ble_eq_true rfl) ⟨Nat.zero_le _, Nat.zero_le _⟩ (fun x91 => ?_)
            have hJ113 : ∀ (g113 : tkH), tkS E X 6 0 0 (tkZi E X) 113 [(0, .ref (e_ad E a0))] [] g113 (f_X8_copy_J113 a0 g113) := by
              intro g113
              unfold f_X8_copy_J113
              refine s_v (fun _ k => tk_aload_n G dX8_copy_113 0 rfl (tk_ldc G dX8_copy_114 wK_X8_59 k)) ?_
              refine s_callVI (As := [.int (-100001)]) G dX8_copy_116 wY_X8_finding wM_X8_60 wI_X8_finding wS_X8_finding (tk_rm hR (by decide) (by decide)) kX8 k0 (by decide) (c_X8_finding E g113 a0 (-100001) k0) rfl rfl (Nat.le_of_ble_eq_true rfl) ⟨Nat.zero_le _, Nat.zero_le _⟩ (fun x116 => ?_)
              exact s_iret G dX8_copy_119
            refine s_if_eq (tgt := 113) G dX8_copy_94 (by decide) (fun q94 => ?_) (fun q94 => ?_)
            ·
              refine s_sub [0] (al' := [(0, .ref (e_ad E a0))]) rfl ?_
              exact hJ113 _
            ·
              refine s_v (fun _ k => tk_aload_n G dX8_copy_97 0 rfl (tk_gr G kX8 dX8_copy_98 wF_X8_46 k0 gR_8_5 (tk_iload_n G dX8_copy_101 3 rfl k))) ?_
              refine s_aaldS G dX8_copy_102 (kF_8_5 k0) (fun b102 kb102 => ?_)
              refine s_v (fun _ k => tk_iload G dX8_copy_103 4 rfl (tk_iload G dX8_copy_105 5 rfl k)) ?_
              refine s_callVI (As := [.int a4, .int a5]) G dX8_copy_107 wY_X6_holds wM_X8_259 wI_X6_holds wS_X6_holds (tk_rm hR (by decide) (by decide)) kX6 kb102 (by decide) (c_X6_holds E x91.2 b102 a4 a5 kb102) rfl rfl (Nat.le_of_ble_eq_true rfl) ⟨Nat.zero_le _, Nat.zero_le _⟩ (fun x107 => ?_)
              refine s_if_ne (tgt := 120) G dX8_copy_110 (by decide) (fun q110 => ?_) (fun q110 => ?_)
              ·
                refine s_sub [0] (al' := [(0, .ref (e_ad E a0))]) rfl ?_
                exact hJ113 _
              ·
                refine s_v (fun _ k => tk_aload_n G dX8_copy_120 0 rfl (tk_gr G kX8 dX8_copy_121 wF_X8_46 k0 gR_8_5 (tk_iload_n G dX8_copy_124 1 rfl k))) ?_
                refine s_aaldS G dX8_copy_125 (kF_8_5 k0) (fun b125 kb125 => ?_)
                refine s_v (fun _ k => tk_gr G kX6 dX8_copy_126 wF_X8_262 kb125 gR_6_2 (tk_iload_n G dX8_copy_129 2 rfl (tk_aload_n G dX8_copy_130 0 rfl (tk_gr G kX8 dX8_copy_131 wF_X8_46 k0 gR_8_5 (tk_iload_n G dX8_copy_134 3 rfl k))))) ?_
                refine s_aaldS G dX8_copy_135 (kF_8_5 k0) (fun b135 kb135 => ?_)
                refine s_v (fun _ k => tk_gr G kX6 dX8_copy_136 wF_X8_262 kb135 gR_6_2 (tk_iload G dX8_copy_139 4 rfl (tk_iload G dX8_copy_141 5 rfl k))) ?_
                refine s_copy G dX8_copy_143 wM_X8_265 (kF_6_2 kb125) (kF_6_2 kb135) (tk_rmc hR (by decide) (Nat.le_of_ble_eq_true rfl)) (fun h143 => ?_)
                refine s_v (fun _ k => tk_iload G dX8_copy_146 5 rfl k) ?_
                exact s_iret G dX8_copy_148
          ·
            refine s_v (fun _ k => tk_aload_n G dX8_copy_75 0 rfl (tk_ldc G dX8_copy_76 wK_X8_87 k)) ?_
            refine s_callVI (As := [.int (-100004)]) G dX8_copy_78 wY_X8_finding wM_X8_60 wI_X8_finding wS_X8_finding (tk_rm hR (by decide) (by decide)) kX8 k0 (by decide) (c_X8_finding E x41.2 a0 (-100004) k0) rfl rfl (Nat.le_of_ble_eq_true rfl) ⟨Nat.zero_le _, Nat.zero_le _⟩ (fun x78 => ?_)
            exact s_iret G dX8_copy_81
        ·
          refine s_sub [0] (al' := [(0, .ref (e_ad E a0))]) rfl ?_
          exact hJ47 _
      ·
        refine s_sub [0] (al' := [(0, .ref (e_ad E a0))]) rfl ?_
        exact hJ47 _
theorem c_X8_copy (E : tkE) (h : tkH) (a0 : Nat) (a1 : Int32) (a2 : Int32) (a3 : Int32) (a4 : Int32) (a5 : Int32) (k0 : kd a0 = 11) : ∀ x, f_X8_copy h a0 a1 a2 a3 a4 a5 = some x → tkM E yX8_copy cX8_copy 6 (some .int) 1 tkF [.ref (e_ad E a0), .int a1, .int a2, .int a3, .int a4, .int a5] h (some (.int x.1)) x.2 := fun x hx => tkM_of (by decide) (Nat.le_of_ble_eq_true rfl) (fun _ hR G => w_X8_copy hR G h a0 a1 a2 a3 a4 a5 k0 x hx)
set_option maxRecDepth 100000 in
set_option maxHeartbeats 4000000 in
theorem w_X8_isStep {E : tkE} {X : tkX} (hR : x_R X = tkR 1) (G : tkG E X cX8_isStep 3 RX8 (some .boolean)) (h : tkH) (a0 : Int32) (a1 : Int32) (a2 : Int32)  : tkS E X 3 0 0 (tkZi E X) 0 [(0, .int a0), (1, .int a1), (2, .int a2)] [] h (f_X8_isStep h a0 a1 a2) := by
  unfold f_X8_isStep
  refine s_v (fun _ k => tk_iload_n G dX8_isStep_0 0 rfl (tk_bipush G dX8_isStep_1 cB_16 k)) ?_
  refine s_callSI (As := [.int a0, .int 16]) G dX8_isStep_3 wY_X8_isWithin wM_X8_55 wI_X8_isWithin (tk_rm hR (by decide) (by decide)) (c_X8_isWithin E h a0 16) rfl rfl (Nat.le_of_ble_eq_true rfl) ⟨Nat.zero_le _, Nat.zero_le _⟩ (fun x3 => ?_)
  refine s_if_eq (tgt := 29) G dX8_isStep_6 (by decide) (fun q6 => ?_) (fun q6 => ?_)
  ·
    refine s_v (fun _ k => tk_iconst G dX8_isStep_29 cI_0 k) ?_
    exact s_zret G dX8_isStep_30 (by decide)
  ·
    refine s_v (fun _ k => tk_iload_n G dX8_isStep_9 1 rfl (tk_iconst G dX8_isStep_10 cI_4 k)) ?_
    refine s_callSI (As := [.int a1, .int 4]) G dX8_isStep_11 wY_X8_isWithin wM_X8_55 wI_X8_isWithin (tk_rm hR (by decide) (by decide)) (c_X8_isWithin E x3.2 a1 4) rfl rfl (Nat.le_of_ble_eq_true rfl) ⟨Nat.zero_le _, Nat.zero_le _⟩ (fun x11 => ?_)
    refine s_if_eq (tgt := 29) G dX8_isStep_14 (by decide) (fun q14 => ?_) (fun q14 => ?_)
    ·
      refine s_v (fun _ k => tk_iconst G dX8_isStep_29 cI_0 k) ?_
      exact s_zret G dX8_isStep_30 (by decide)
    ·
      refine s_v (fun _ k => tk_iload_n G dX8_isStep_17 2 rfl (tk_iconst G dX8_isStep_18 cI_4 k)) ?_
      refine s_callSI (As := [.int a2, .int 4]) G dX8_isStep_19 wY_X8_isWithin wM_X8_55 wI_X8_isWithin (tk_rm hR (by decide) (by decide)) (c_X8_isWithin E x11.2 a2 4) rfl rfl (Nat.le_of_ble_eq_true rfl) ⟨Nat.zero_le _, Nat.zero_le _⟩ (fun x19 => ?_)
      refine s_if_eq (tgt := 29) G dX8_isStep_22 (by decide) (fun q22 => ?_) (fun q22 => ?_)
      ·
        refine s_v (fun _ k => tk_iconst G dX8_isStep_29 cI_0 k) ?_
        exact s_zret G dX8_isStep_30 (by decide)
      ·
        refine s_v (fun _ k => tk_iconst G dX8_isStep_25 cI_1 (tk_goto (tgt := 30) G dX8_isStep_26 (by decide) k)) ?_
        exact s_zret G dX8_isStep_30 (by decide)
theorem c_X8_isStep (E : tkE) (h : tkH) (a0 : Int32) (a1 : Int32) (a2 : Int32)  : ∀ x, f_X8_isStep h a0 a1 a2 = some x → tkM E yX8_isStep cX8_isStep 3 (some .boolean) 1 tkF [.int a0, .int a1, .int a2] h (some (.int x.1)) x.2 := fun x hx => tkM_of (by decide) (Nat.le_of_ble_eq_true rfl) (fun _ hR G => w_X8_isStep hR G h a0 a1 a2  x hx)
set_option maxRecDepth 100000 in
set_option maxHeartbeats 4000000 in
theorem w_X8_put {E : tkE} {X : tkX} (hR : x_R X = tkR 1) (G : tkG E X cX8_put 4 RX8 (some .int)) (h : tkH) (a0 : Nat) (a1 : Int32) (a2 : Int32) (a3 : Int32) (k0 : kd a0 = 11) : tkS E X 4 0 0 (tkZi E X) 0 [(0, .ref (e_ad E a0)), (1, .int a1), (2, .int a2), (3, .int a3)] [] h (f_X8_put h a0 a1 a2 a3) := by
  unfold f_X8_put
  refine s_v (fun _ k => tk_iload_n G dX8_put_0 1 rfl (tk_iconst G dX8_put_1 cI_4 k)) ?_
  refine s_callSI (As := [.int a1, .int 4]) G dX8_put_2 wY_X8_isWithin wM_X8_55 wI_X8_isWithin (tk_rm hR (by decide) (by decide)) (c_X8_isWithin E h a1 4) rfl rfl (Nat.le_of_ble_eq_true rfl) ⟨Nat.zero_le _, Nat.zero_le _⟩ (fun x2 => ?_)
  refine s_if_ne (tgt := 15) G dX8_put_5 (by decide) (fun q5 => ?_) (fun q5 => ?_)
  ·
    refine s_v (fun _ k => tk_aload_n G dX8_put_8 0 rfl (tk_ldc G dX8_put_9 wK_X8_59 k)) ?_
    refine s_callVI (As := [.int (-100001)]) G dX8_put_11 wY_X8_finding wM_X8_60 wI_X8_finding wS_X8_finding (tk_rm hR (by decide) (by decide)) kX8 k0 (by decide) (c_X8_finding E x2.2 a0 (-100001) k0) rfl rfl (Nat.le_of_ble_eq_true rfl) ⟨Nat.zero_le _, Nat.zero_le _⟩ (fun x11 => ?_)
    exact s_iret G dX8_put_14
  ·
    refine s_v (fun _ k => tk_aload_n G dX8_put_15 0 rfl (tk_gr G kX8 dX8_put_16 wF_X8_46 k0 gR_8_5 (tk_iload_n G dX8_put_19 1 rfl k))) ?_
    refine s_aaldS G dX8_put_20 (kF_8_5 k0) (fun b20 kb20 => ?_)
    refine s_callVI (As := []) G dX8_put_21 wY_X6_isMissing wM_X8_248 wI_X6_isMissing wS_X6_isMissing (tk_rm hR (by decide) (by decide)) kX6 kb20 (by decide) (c_X6_isMissing E x2.2 b20 kb20) rfl rfl (Nat.le_of_ble_eq_true rfl) ⟨Nat.zero_le _, Nat.zero_le _⟩ (fun x21 => ?_)
    refine s_if_eq (tgt := 34) G dX8_put_24 (by decide) (fun q24 => ?_) (fun q24 => ?_)
    ·
      refine s_v (fun _ k => tk_iload_n G dX8_put_34 2 rfl (tk_aload_n G dX8_put_35 0 rfl (tk_gr G kX8 dX8_put_36 wF_X8_46 k0 gR_8_5 (tk_iload_n G dX8_put_39 1 rfl k)))) ?_
      refine s_aaldS G dX8_put_40 (kF_8_5 k0) (fun b40 kb40 => ?_)
      refine s_v (fun _ k => tk_gi G kX6 dX8_put_41 wF_X8_247 kb40 gI_6_1 k) ?_
      refine s_callSI (As := [.int a2, .int ((x21.2) b40 1)]) G dX8_put_44 wY_X8_isWithin wM_X8_55 wI_X8_isWithin (tk_rm hR (by decide) (by decide)) (c_X8_isWithin E x21.2 a2 ((x21.2) b40 1)) rfl rfl (Nat.le_of_ble_eq_true rfl) ⟨Nat.zero_le _, Nat.zero_le _⟩ (fun x44 => ?_)
      refine s_if_ne (tgt := 57) G dX8_put_47 (by decide) (fun q47 => ?_) (fun q47 => ?_)
      ·
        refine s_v (fun _ k => tk_aload_n G dX8_put_50 0 rfl (tk_ldc G dX8_put_51 wK_X8_59 k)) ?_
        refine s_callVI (As := [.int (-100001)]) G dX8_put_53 wY_X8_finding wM_X8_60 wI_X8_finding wS_X8_finding (tk_rm hR (by decide) (by decide)) kX8 k0 (by decide) (c_X8_finding E x44.2 a0 (-100001) k0) rfl rfl (Nat.le_of_ble_eq_true rfl) ⟨Nat.zero_le _, Nat.zero_le _⟩ (fun x53 => ?_)
        exact s_iret G dX8_put_56
      ·
        refine s_v (fun _ k => tk_aload_n G dX8_put_57 0 rfl (tk_gr G kX8 dX8_put_58 wF_X8_46 k0 gR_8_5 (tk_iload_n G dX8_put_61 1 rfl k))) ?_
        refine s_aaldS G dX8_put_62 (kF_8_5 k0) (fun b62 kb62 => ?_)
        refine s_v (fun _ k => tk_iload_n G dX8_put_63 2 rfl (tk_iload_n G dX8_put_64 3 rfl k)) ?_
        refine s_callVV (As := [.int a2, .int a3]) G dX8_put_65 wY_X6_write wM_X8_253 wI_X6_write wS_X6_write (tk_rm hR (by decide) (by decide)) kX6 kb62 (by decide) (c_X6_write E x44.2 b62 a2 a3 kb62) rfl rfl (Nat.le_of_ble_eq_true rfl) ⟨Nat.zero_le _, Nat.zero_le _⟩ (fun x65 => ?_)
        refine s_v (fun _ k => tk_iconst G dX8_put_68 cI_0 k) ?_
        exact s_iret G dX8_put_69
    ·
      refine s_v (fun _ k => tk_aload_n G dX8_put_27 0 rfl (tk_ldc G dX8_put_28 wK_X8_252 k)) ?_
      refine s_callVI (As := [.int (-100002)]) G dX8_put_30 wY_X8_finding wM_X8_60 wI_X8_finding wS_X8_finding (tk_rm hR (by decide) (by decide)) kX8 k0 (by decide) (c_X8_finding E x21.2 a0 (-100002) k0) rfl rfl (Nat.le_of_ble_eq_true rfl) ⟨Nat.zero_le _, Nat.zero_le _⟩ (fun x30 => ?_)
      exact s_iret G dX8_put_33
theorem c_X8_put (E : tkE) (h : tkH) (a0 : Nat) (a1 : Int32) (a2 : Int32) (a3 : Int32) (k0 : kd a0 = 11) : ∀ x, f_X8_put h a0 a1 a2 a3 = some x → tkM E yX8_put cX8_put 4 (some .int) 1 tkF [.ref (e_ad E a0), .int a1, .int a2, .int a3] h (some (.int x.1)) x.2 := fun x hx => tkM_of (by decide) (Nat.le_of_ble_eq_true rfl) (fun _ hR G => w_X8_put hR G h a0 a1 a2 a3 k0 x hx)
set_option maxRecDepth 100000 in
set_option maxHeartbeats 4000000 in
theorem w_X8_sumOfCosts {E : tkE} {X : tkX} (hR : x_R X = tkR 1) (G : tkG E X cX8_sumOfCosts 5 RX8 (some .int)) (h : tkH) (a0 : Nat) (a1 : Int32) (a2 : Int32) (k0 : kd a0 = 11) : tkS E X 5 0 0 (tkZi E X) 0 [(0, .ref (e_ad E a0)), (1, .int a1), (2, .int a2)] [] h (f_X8_sumOfCosts h a0 a1 a2) := by
  unfold f_X8_sumOfCosts
  refine s_v (fun _ k => tk_iconst G dX8_sumOfCosts_0 cI_0 (tk_istore_n (al' := [(3, .int 0), (0, .ref (e_ad E a0)), (1, .int a1), (2, .int a2)]) G dX8_sumOfCosts_1 (by decide) rfl (tk_iconst G dX8_sumOfCosts_2 cI_0 (tk_istore (al' := [(4, .int 0), (3, .int 0), (0, .ref (e_ad E a0)), (1, .int a1), (2, .int a2)]) G dX8_sumOfCosts_3 (by decide) rfl k)))) ?_
  refine s_sub [2, 3, 4, 1, 0] (al' := [(0, .ref (e_ad E a0)), (1, .int a1), (2, .int a2), (3, .int 0), (4, .int 0)]) rfl ?_
  unfold f_X8_sumOfCosts_L5
  refine s_lp2 (al := fun y5_3 y5_4 => [(0, .ref (e_ad E a0)), (1, .int a1), (2, .int a2), (3, .int y5_3), (4, .int y5_4)]) (fun kk5 hL5 g5 y5_3 y5_4 => ?_) _ _ _ _
  refine s_v (fun _ k => tk_iload G dX8_sumOfCosts_5 4 rfl (tk_aload_n G dX8_sumOfCosts_7 0 rfl (tk_gr G kX8 dX8_sumOfCosts_8 wF_X8_10 k0 gR_8_0 (tk_gi G kX0 dX8_sumOfCosts_11 wF_X8_64 (kF_8_0 k0) gI_0_0 k)))) ?_
  refine s_icmp_ge (tgt := 50) G dX8_sumOfCosts_14 (by decide) (fun q14 => ?_) (fun q14 => ?_)
  ·
    refine s_v (fun _ k => tk_iload_n G dX8_sumOfCosts_50 3 rfl k) ?_
    exact s_iret G dX8_sumOfCosts_51
  ·
    refine s_v (fun _ k => tk_iload_n G dX8_sumOfCosts_17 2 rfl (tk_iload G dX8_sumOfCosts_18 4 rfl k)) ?_
    refine s_callSI (As := [.int a2, .int y5_4]) G dX8_sumOfCosts_20 wY_X8_isInHeap wM_X8_287 wI_X8_isInHeap (tk_rm hR (by decide) (by decide)) (c_X8_isInHeap E g5 a2 y5_4) rfl rfl (Nat.le_of_ble_eq_true rfl) ⟨Nat.zero_le _, Nat.zero_le _⟩ (fun x20 => ?_)
    refine s_if_eq (tgt := 44) G dX8_sumOfCosts_23 (by decide) (fun q23 => ?_) (fun q23 => ?_)
    ·
      refine s_v (fun _ k => tk_iinc (al' := [(4, .int (y5_4 + 1)), (0, .ref (e_ad E a0)), (1, .int a1), (2, .int a2), (3, .int y5_3)]) G dX8_sumOfCosts_44 4 rfl (ci_1 _) (by decide) rfl (tk_goto (tgt := 5) G dX8_sumOfCosts_47 (by decide) k)) ?_
      refine s_sub [1, 2, 3, 4, 0] (al' := [(0, .ref (e_ad E a0)), (1, .int a1), (2, .int a2), (3, .int y5_3), (4, .int (y5_4 + 1))]) rfl ?_
      exact hL5 _ _ _
    ·
      refine s_v (fun _ k => tk_iload_n G dX8_sumOfCosts_26 3 rfl (tk_aload_n G dX8_sumOfCosts_27 0 rfl (tk_gr G kX8 dX8_sumOfCosts_28 wF_X8_26 k0 gR_8_2 (tk_gr G kX2 dX8_sumOfCosts_31 wF_X8_198 (kF_8_2 k0) gR_2_1 (tk_iload_n G dX8_sumOfCosts_34 1 rfl (tk_bipush G dX8_sumOfCosts_35 cB_10 (tk_imul G dX8_sumOfCosts_37 (tk_iload G dX8_sumOfCosts_38 4 rfl (tk_iadd G dX8_sumOfCosts_40 k))))))))) ?_
      refine s_iald G dX8_sumOfCosts_41 (kF_2_1 (kF_8_2 k0)) (fun v41 => ?_)
      refine s_v (fun _ k => tk_iadd G dX8_sumOfCosts_42 (tk_istore_n (al' := [(3, .int (y5_3 + v41)), (0, .ref (e_ad E a0)), (1, .int a1), (2, .int a2), (4, .int y5_4)]) G dX8_sumOfCosts_43 (by decide) rfl (tk_iinc (al' := [(4, .int (y5_4 + 1)), (3, .int (y5_3 + v41)), (0, .ref (e_ad E a0)), (1, .int a1), (2, .int a2)]) G dX8_sumOfCosts_44 4 rfl (ci_1 _) (by decide) rfl (tk_goto (tgt := 5) G dX8_sumOfCosts_47 (by decide) k)))) ?_
      refine s_sub [2, 3, 4, 1, 0] (al' := [(0, .ref (e_ad E a0)), (1, .int a1), (2, .int a2), (3, .int (y5_3 + v41)), (4, .int (y5_4 + 1))]) rfl ?_
      exact hL5 _ _ _
theorem c_X8_sumOfCosts (E : tkE) (h : tkH) (a0 : Nat) (a1 : Int32) (a2 : Int32) (k0 : kd a0 = 11) : ∀ x, f_X8_sumOfCosts h a0 a1 a2 = some x → tkM E yX8_sumOfCosts cX8_sumOfCosts 5 (some .int) 1 tkF [.ref (e_ad E a0), .int a1, .int a2] h (some (.int x.1)) x.2 := fun x hx => tkM_of (by decide) (Nat.le_of_ble_eq_true rfl) (fun _ hR G => w_X8_sumOfCosts hR G h a0 a1 a2 k0 x hx)
set_option maxRecDepth 100000 in
set_option maxHeartbeats 4000000 in
theorem w_X9_all {E : tkE} {X : tkX} (hR : x_R X = tkR 1) (G : tkG E X cX9_all 4 RX9 (some .int)) (h : tkH) (a0 : Nat) (a1 : Int32) (k0 : kd a0 = 12) : tkS E X 4 0 0 (tkZi E X) 0 [(0, .ref (e_ad E a0)), (1, .int a1)] [] h (f_X9_all h a0 a1) := by
  unfold f_X9_all
  refine s_v (fun _ k => tk_iload_n G dX9_all_0 1 rfl (tk_iconst G dX9_all_1 cI_0 (tk_iconst G dX9_all_2 cI_2 k))) ?_
  refine s_callSI (As := [.int a1, .int 0, .int 2]) G dX9_all_3 wY_X9_within wM_X9_50 wI_X9_within (tk_rm hR (by decide) (by decide)) (c_X9_within E h a1 0 2) rfl rfl (Nat.le_of_ble_eq_true rfl) ⟨Nat.zero_le _, Nat.zero_le _⟩ (fun x3 => ?_)
  refine s_if_ne (tgt := 16) G dX9_all_6 (by decide) (fun q6 => ?_) (fun q6 => ?_)
  ·
    refine s_v (fun _ k => tk_aload_n G dX9_all_9 0 rfl (tk_ldc G dX9_all_10 wK_X9_66 k)) ?_
    refine s_callVI (As := [.int (-100001)]) G dX9_all_12 wY_X9_finding wM_X9_58 wI_X9_finding wS_X9_finding (tk_rm hR (by decide) (by decide)) kX9 k0 (by decide) (c_X9_finding E x3.2 a0 (-100001) k0) rfl rfl (Nat.le_of_ble_eq_true rfl) ⟨Nat.zero_le _, Nat.zero_le _⟩ (fun x12 => ?_)
    exact s_iret G dX9_all_15
  ·
    refine s_v (fun _ k => tk_iconst G dX9_all_16 cI_0 (tk_istore_n (al' := [(2, .int 0), (0, .ref (e_ad E a0)), (1, .int a1)]) G dX9_all_17 (by decide) rfl (tk_iconst G dX9_all_18 cI_0 (tk_istore_n (al' := [(3, .int 0), (2, .int 0), (0, .ref (e_ad E a0)), (1, .int a1)]) G dX9_all_19 (by decide) rfl k)))) ?_
    have hX48 : ∀ (gz48 : tkH) (z48_2 : Int32), tkS E X 4 0 0 (tkZi E X) 48 [(0, .ref (e_ad E a0)), (1, .int a1), (2, .int z48_2)] [] gz48 (if a1 = 0 then ((rdI gz48 (fld a0 0) 0).bind fun v57 => some (v57, gz48)) else (if a1 = 1 then (some (z48_2, gz48)) else (some (gz48 a0 3, gz48)))) := by
      intro gz48 z48_2
      refine s_v (fun _ k => tk_iload_n G dX9_all_48 1 rfl k) ?_
      refine s_if_ne (tgt := 61) G dX9_all_49 (by decide) (fun q49 => ?_) (fun q49 => ?_)
      ·
        refine s_v (fun _ k => tk_aload_n G dX9_all_52 0 rfl (tk_gr G kX9 dX9_all_53 wF_X9_9 k0 gR_9_0 (tk_iconst G dX9_all_56 cI_0 k))) ?_
        refine s_iald G dX9_all_57 (kF_9_0 k0) (fun v57 => ?_)
        refine s_v (fun _ k => tk_goto (tgt := 74) G dX9_all_58 (by decide) k) ?_
        exact s_iret G dX9_all_74
      ·
        refine s_v (fun _ k => tk_iload_n G dX9_all_61 1 rfl (tk_iconst G dX9_all_62 cI_1 k)) ?_
        refine s_icmp_ne (tgt := 70) G dX9_all_63 (by decide) (fun q63 => ?_) (fun q63 => ?_)
        ·
          refine s_v (fun _ k => tk_iload_n G dX9_all_66 2 rfl (tk_goto (tgt := 74) G dX9_all_67 (by decide) k)) ?_
          exact s_iret G dX9_all_74
        ·
          refine s_v (fun _ k => tk_aload_n G dX9_all_70 0 rfl (tk_gi G kX9 dX9_all_71 wF_X9_46 k0 gI_9_3 k)) ?_
          exact s_iret G dX9_all_74
    refine s_sub [2, 3, 1, 0] (al' := [(0, .ref (e_ad E a0)), (1, .int a1), (2, .int 0), (3, .int 0)]) rfl ?_
    unfold f_X9_all_L20
    refine s_lp2 (al := fun y20_2 y20_3 => [(0, .ref (e_ad E a0)), (1, .int a1), (2, .int y20_2), (3, .int y20_3)]) (fun kk20 hL20 g20 y20_2 y20_3 => ?_) _ _ _ _
    refine s_v (fun _ k => tk_iload_n G dX9_all_20 3 rfl (tk_aload_n G dX9_all_21 0 rfl (tk_gr G kX9 dX9_all_22 wF_X9_9 k0 gR_9_0 (tk_iconst G dX9_all_25 cI_0 k)))) ?_
    refine s_iald G dX9_all_26 (kF_9_0 k0) (fun v26 => ?_)
    refine s_icmp_ge (tgt := 48) G dX9_all_27 (by decide) (fun q27 => ?_) (fun q27 => ?_)
    ·
      refine s_sub [0, 1, 2] (al' := [(0, .ref (e_ad E a0)), (1, .int a1), (2, .int y20_2)]) rfl ?_
      exact hX48 _ _
    ·
      refine s_v (fun _ k => tk_iload_n G dX9_all_30 2 rfl (tk_aload_n G dX9_all_31 0 rfl (tk_gr G kX9 dX9_all_32 wF_X9_9 k0 gR_9_0 (tk_bipush G dX9_all_35 cB_70 (tk_iload_n G dX9_all_37 3 rfl (tk_iadd G dX9_all_38 k)))))) ?_
      refine s_iald G dX9_all_39 (kF_9_0 k0) (fun v39 => ?_)
      refine s_v (fun _ k => tk_iadd G dX9_all_40 (tk_istore_n (al' := [(2, .int (y20_2 + v39)), (0, .ref (e_ad E a0)), (1, .int a1), (3, .int y20_3)]) G dX9_all_41 (by decide) rfl (tk_iinc (al' := [(3, .int (y20_3 + 1)), (2, .int (y20_2 + v39)), (0, .ref (e_ad E a0)), (1, .int a1)]) G dX9_all_42 3 rfl (ci_1 _) (by decide) rfl (tk_goto (tgt := 20) G dX9_all_45 (by decide) k)))) ?_
      refine s_sub [2, 3, 1, 0] (al' := [(0, .ref (e_ad E a0)), (1, .int a1), (2, .int (y20_2 + v39)), (3, .int (y20_3 + 1))]) rfl ?_
      exact hL20 _ _ _
theorem c_X9_all (E : tkE) (h : tkH) (a0 : Nat) (a1 : Int32) (k0 : kd a0 = 12) : ∀ x, f_X9_all h a0 a1 = some x → tkM E yX9_all cX9_all 4 (some .int) 1 tkF [.ref (e_ad E a0), .int a1] h (some (.int x.1)) x.2 := fun x hx => tkM_of (by decide) (Nat.le_of_ble_eq_true rfl) (fun _ hR G => w_X9_all hR G h a0 a1 k0 x hx)
set_option maxRecDepth 100000 in
set_option maxHeartbeats 4000000 in
theorem w_X9_counts {E : tkE} {X : tkX} (hR : x_R X = tkR 1) (G : tkG E X cX9_counts 7 RX9 (some .int)) (h : tkH) (a0 : Nat) (a1 : Int32) (a2 : Int32) (a3 : Int32) (k0 : kd a0 = 12) : tkS E X 7 0 0 (tkZi E X) 0 [(0, .ref (e_ad E a0)), (1, .int a1), (2, .int a2), (3, .int a3)] [] h (f_X9_counts h a0 a1 a2 a3) := by
  unfold f_X9_counts
  refine s_v (fun _ k => tk_iconst G dX9_counts_0 cI_0 (tk_istore (al' := [(4, .int 0), (0, .ref (e_ad E a0)), (1, .int a1), (2, .int a2), (3, .int a3)]) G dX9_counts_1 (by decide) rfl (tk_iconst G dX9_counts_3 cI_0 (tk_istore (al' := [(5, .int 0), (4, .int 0), (0, .ref (e_ad E a0)), (1, .int a1), (2, .int a2), (3, .int a3)]) G dX9_counts_4 (by decide) rfl k)))) ?_
  refine s_sub [2, 3, 4, 5, 1, 0] (al' := [(0, .ref (e_ad E a0)), (1, .int a1), (2, .int a2), (3, .int a3), (4, .int 0), (5, .int 0)]) rfl ?_
  unfold f_X9_counts_L6
  refine s_lp2 (al := fun y6_4 y6_5 => [(0, .ref (e_ad E a0)), (1, .int a1), (2, .int a2), (3, .int a3), (4, .int y6_4), (5, .int y6_5)]) (fun kk6 hL6 g6 y6_4 y6_5 => ?_) _ _ _ _
  refine s_v (fun _ k => tk_iload G dX9_counts_6 5 rfl (tk_aload_n G dX9_counts_8 0 rfl (tk_gr G kX9 dX9_counts_9 wF_X9_9 k0 gR_9_0 (tk_iconst G dX9_counts_12 cI_0 k)))) ?_
  refine s_iald G dX9_counts_13 (kF_9_0 k0) (fun v13 => ?_)
  refine s_icmp_ge (tgt := 130) G dX9_counts_14 (by decide) (fun q14 => ?_) (fun q14 => ?_)
  ·
    refine s_v (fun _ k => tk_iload G dX9_counts_130 4 rfl k) ?_
    exact s_iret G dX9_counts_132
  ·
    refine s_v (fun _ k => tk_iload_n G dX9_counts_17 2 rfl (tk_iconst G dX9_counts_18 cI_m1 k)) ?_
    have hJ39 : ∀ (g39 : tkH), tkS E X 7 0 0 (tkZi E X) 39 [(0, .ref (e_ad E a0)), (1, .int a1), (2, .int a2), (3, .int a3), (4, .int y6_4), (5, .int y6_5)] [] g39 (f_X9_counts_J39 a0 y6_5 a1 a3 kk6 y6_4 g39) := by
      intro g39
      unfold f_X9_counts_J39
      refine s_v (fun _ k => tk_iconst G dX9_counts_39 cI_0 (tk_istore (al' := [(6, .int 0), (0, .ref (e_ad E a0)), (1, .int a1), (2, .int a2), (3, .int a3), (4, .int y6_4), (5, .int y6_5)]) G dX9_counts_40 (by decide) rfl k)) ?_
      have hX86 : ∀ (gz86 : tkH) (z86_4 : Int32), tkS E X 7 0 0 (tkZi E X) 86 [(0, .ref (e_ad E a0)), (1, .int a1), (2, .int a2), (3, .int a3), (4, .int z86_4), (5, .int y6_5)] [] gz86 (if a3 = 0 then (kk6 gz86 (z86_4 + 0) (y6_5 + 1)) else ((f_X9_isTorn gz86 a0 y6_5).bind fun x95 => if x95.1 = 0 then (kk6 x95.2 (z86_4 + 0) (y6_5 + 1)) else ((rdI x95.2 (fld a0 0) (70 + y6_5)).bind fun v110 => if 10 ≤ v110 then (kk6 x95.2 (z86_4 + 0) (y6_5 + 1)) else (kk6 x95.2 (z86_4 + 1) (y6_5 + 1))))) := by
        intro gz86 z86_4
        refine s_v (fun _ k => tk_iload G dX9_counts_86 4 rfl (tk_iload_n G dX9_counts_88 3 rfl k)) ?_
        refine s_if_eq (tgt := 120) G dX9_counts_89 (by decide) (fun q89 => ?_) (fun q89 => ?_)
        ·
          refine s_v (fun _ k => tk_iconst G dX9_counts_120 cI_0 (tk_iadd G dX9_counts_121 (tk_istore (al' := [(4, .int (z86_4 + 0)), (0, .ref (e_ad E a0)), (1, .int a1), (2, .int a2), (3, .int a3), (5, .int y6_5)]) G dX9_counts_122 (by decide) rfl (tk_iinc (al' := [(5, .int (y6_5 + 1)), (4, .int (z86_4 + 0)), (0, .ref (e_ad E a0)), (1, .int a1), (2, .int a2), (3, .int a3)]) G dX9_counts_124 5 rfl (ci_1 _) (by decide) rfl (tk_goto (tgt := 6) G dX9_counts_127 (by decide) k))))) ?_
          refine s_sub [2, 3, 4, 5, 1, 0] (al' := [(0, .ref (e_ad E a0)), (1, .int a1), (2, .int a2), (3, .int a3), (4, .int (z86_4 + 0)), (5, .int (y6_5 + 1))]) rfl ?_
          exact hL6 _ _ _
        ·
          refine s_v (fun _ k => tk_aload_n G dX9_counts_92 0 rfl (tk_iload G dX9_counts_93 5 rfl k)) ?_
          refine s_callVI (As := [.int y6_5]) G dX9_counts_95 wY_X9_isTorn wM_X9_113 wI_X9_isTorn wS_X9_isTorn (tk_rm hR (by decide) (by decide)) kX9 k0 (by decide) (c_X9_isTorn E gz86 a0 y6_5 k0) rfl rfl (Nat.le_of_ble_eq_true rfl) ⟨Nat.zero_le _, Nat.zero_le _⟩ (fun x95 => ?_)
          refine s_if_eq (tgt := 120) G dX9_counts_98 (by decide) (fun q98 => ?_) (fun q98 => ?_)
          ·
            refine s_v (fun _ k => tk_iconst G dX9_counts_120 cI_0 (tk_iadd G dX9_counts_121 (tk_istore (al' := [(4, .int (z86_4 + 0)), (0, .ref (e_ad E a0)), (1, .int a1), (2, .int a2), (3, .int a3), (5, .int y6_5)]) G dX9_counts_122 (by decide) rfl (tk_iinc (al' := [(5, .int (y6_5 + 1)), (4, .int (z86_4 + 0)), (0, .ref (e_ad E a0)), (1, .int a1), (2, .int a2), (3, .int a3)]) G dX9_counts_124 5 rfl (ci_1 _) (by decide) rfl (tk_goto (tgt := 6) G dX9_counts_127 (by decide) k))))) ?_
            refine s_sub [2, 3, 4, 5, 1, 0] (al' := [(0, .ref (e_ad E a0)), (1, .int a1), (2, .int a2), (3, .int a3), (4, .int (z86_4 + 0)), (5, .int (y6_5 + 1))]) rfl ?_
            exact hL6 _ _ _
          ·
            refine s_v (fun _ k => tk_aload_n G dX9_counts_101 0 rfl (tk_gr G kX9 dX9_counts_102 wF_X9_9 k0 gR_9_0 (tk_bipush G dX9_counts_105 cB_70 (tk_iload G dX9_counts_107 5 rfl (tk_iadd G dX9_counts_109 k))))) ?_
            refine s_iald G dX9_counts_110 (kF_9_0 k0) (fun v110 => ?_)
            refine s_v (fun _ k => tk_bipush G dX9_counts_111 cB_10 k) ?_
            refine s_icmp_ge (tgt := 120) G dX9_counts_113 (by decide) (fun q113 => ?_) (fun q113 => ?_)
            ·
              refine s_v (fun _ k => tk_iconst G dX9_counts_120 cI_0 (tk_iadd G dX9_counts_121 (tk_istore (al' := [(4, .int (z86_4 + 0)), (0, .ref (e_ad E a0)), (1, .int a1), (2, .int a2), (3, .int a3), (5, .int y6_5)]) G dX9_counts_122 (by decide) rfl (tk_iinc (al' := [(5, .int (y6_5 + 1)), (4, .int (z86_4 + 0)), (0, .ref (e_ad E a0)), (1, .int a1), (2, .int a2), (3, .int a3)]) G dX9_counts_124 5 rfl (ci_1 _) (by decide) rfl (tk_goto (tgt := 6) G dX9_counts_127 (by decide) k))))) ?_
              refine s_sub [2, 3, 4, 5, 1, 0] (al' := [(0, .ref (e_ad E a0)), (1, .int a1), (2, .int a2), (3, .int a3), (4, .int (z86_4 + 0)), (5, .int (y6_5 + 1))]) rfl ?_
              exact hL6 _ _ _
            ·
              refine s_v (fun _ k => tk_iconst G dX9_counts_116 cI_1 (tk_goto (tgt := 121) G dX9_counts_117 (by decide) k)) ?_
              refine s_v (fun _ k => tk_iadd G dX9_counts_121 (tk_istore (al' := [(4, .int (z86_4 + 1)), (0, .ref (e_ad E a0)), (1, .int a1), (2, .int a2), (3, .int a3), (5, .int y6_5)]) G dX9_counts_122 (by decide) rfl (tk_iinc (al' := [(5, .int (y6_5 + 1)), (4, .int (z86_4 + 1)), (0, .ref (e_ad E a0)), (1, .int a1), (2, .int a2), (3, .int a3)]) G dX9_counts_124 5 rfl (ci_1 _) (by decide) rfl (tk_goto (tgt := 6) G dX9_counts_127 (by decide) k)))) ?_
              refine s_sub [2, 3, 4, 5, 1, 0] (al' := [(0, .ref (e_ad E a0)), (1, .int a1), (2, .int a2), (3, .int a3), (4, .int (z86_4 + 1)), (5, .int (y6_5 + 1))]) rfl ?_
              exact hL6 _ _ _
      refine s_sub [1, 2, 3, 4, 5, 6, 0] (al' := [(0, .ref (e_ad E a0)), (1, .int a1), (2, .int a2), (3, .int a3), (4, .int y6_4), (5, .int y6_5), (6, .int 0)]) rfl ?_
      unfold f_X9_counts_L42
      refine s_lp2 (al := fun y42_4 y42_6 => [(0, .ref (e_ad E a0)), (1, .int a1), (2, .int a2), (3, .int a3), (4, .int y42_4), (5, .int y6_5), (6, .int y42_6)]) (fun kk42 hL42 g42 y42_4 y42_6 => ?_) _ _ _ _
      refine s_v (fun _ k => tk_iload G dX9_counts_42 6 rfl (tk_aload_n G dX9_counts_44 0 rfl (tk_gr G kX9 dX9_counts_45 wF_X9_9 k0 gR_9_0 (tk_bipush G dX9_counts_48 cB_70 (tk_iload G dX9_counts_50 5 rfl (tk_iadd G dX9_counts_52 k)))))) ?_
      refine s_iald G dX9_counts_53 (kF_9_0 k0) (fun v53 => ?_)
      refine s_icmp_ge (tgt := 86) G dX9_counts_54 (by decide) (fun q54 => ?_) (fun q54 => ?_)
      ·
        refine s_sub [0, 1, 2, 3, 4, 5] (al' := [(0, .ref (e_ad E a0)), (1, .int a1), (2, .int a2), (3, .int a3), (4, .int y42_4), (5, .int y6_5)]) rfl ?_
        exact hX86 _ _
      ·
        refine s_v (fun _ k => tk_iload G dX9_counts_57 4 rfl (tk_aload_n G dX9_counts_59 0 rfl (tk_iload G dX9_counts_60 5 rfl (tk_iload G dX9_counts_62 6 rfl (tk_iconst G dX9_counts_64 cI_0 k))))) ?_
        refine s_callVI (As := [.int y6_5, .int y42_6, .int 0]) G dX9_counts_65 wY_X9_stepOf wM_X9_89 wI_X9_stepOf wS_X9_stepOf (tk_rm hR (by decide) (by decide)) kX9 k0 (by decide) (c_X9_stepOf E g42 a0 y6_5 y42_6 0 k0) rfl rfl (Nat.le_of_ble_eq_true rfl) ⟨Nat.zero_le _, Nat.zero_le _⟩ (fun x65 => ?_)
        refine s_v (fun _ k => tk_iload_n G dX9_counts_68 1 rfl k) ?_
        refine s_icmp_ne (tgt := 76) G dX9_counts_69 (by decide) (fun q69 => ?_) (fun q69 => ?_)
        ·
          refine s_v (fun _ k => tk_iconst G dX9_counts_72 cI_1 (tk_goto (tgt := 77) G dX9_counts_73 (by decide) k)) ?_
          refine s_v (fun _ k => tk_iadd G dX9_counts_77 (tk_istore (al' := [(4, .int (y42_4 + 1)), (0, .ref (e_ad E a0)), (1, .int a1), (2, .int a2), (3, .int a3), (5, .int y6_5), (6, .int y42_6)]) G dX9_counts_78 (by decide) rfl (tk_iinc (al' := [(6, .int (y42_6 + 1)), (4, .int (y42_4 + 1)), (0, .ref (e_ad E a0)), (1, .int a1), (2, .int a2), (3, .int a3), (5, .int y6_5)]) G dX9_counts_80 6 rfl (ci_1 _) (by decide) rfl (tk_goto (tgt := 42) G dX9_counts_83 (by decide) k)))) ?_
          refine s_sub [2, 3, 4, 5, 1, 6, 0] (al' := [(0, .ref (e_ad E a0)), (1, .int a1), (2, .int a2), (3, .int a3), (4, .int (y42_4 + 1)), (5, .int y6_5), (6, .int (y42_6 + 1))]) rfl ?_
          exact hL42 _ _ _
        ·
          refine s_v (fun _ k => tk_iconst G dX9_counts_76 cI_0 (tk_iadd G dX9_counts_77 (tk_istore (al' := [(4, .int (y42_4 + 0)), (0, .ref (e_ad E a0)), (1, .int a1), (2, .int a2), (3, .int a3), (5, .int y6_5), (6, .int y42_6)]) G dX9_counts_78 (by decide) rfl (tk_iinc (al' := [(6, .int (y42_6 + 1)), (4, .int (y42_4 + 0)), (0, .ref (e_ad E a0)), (1, .int a1), (2, .int a2), (3, .int a3), (5, .int y6_5)]) G dX9_counts_80 6 rfl (ci_1 _) (by decide) rfl (tk_goto (tgt := 42) G dX9_counts_83 (by decide) k))))) ?_
          refine s_sub [2, 3, 4, 5, 1, 6, 0] (al' := [(0, .ref (e_ad E a0)), (1, .int a1), (2, .int a2), (3, .int a3), (4, .int (y42_4 + 0)), (5, .int y6_5), (6, .int (y42_6 + 1))]) rfl ?_
          exact hL42 _ _ _
    refine s_icmp_eq (tgt := 39) G dX9_counts_19 (by decide) (fun q19 => ?_) (fun q19 => ?_)
    ·
      exact hJ39 _
    ·
      refine s_v (fun _ k => tk_aload_n G dX9_counts_22 0 rfl (tk_gr G kX9 dX9_counts_23 wF_X9_9 k0 gR_9_0 (tk_bipush G dX9_counts_26 cB_50 (tk_iload G dX9_counts_28 5 rfl (tk_iadd G dX9_counts_30 k))))) ?_
      refine s_iald G dX9_counts_31 (kF_9_0 k0) (fun v31 => ?_)
      refine s_v (fun _ k => tk_iload_n G dX9_counts_32 2 rfl k) ?_
      refine s_icmp_eq (tgt := 39) G dX9_counts_33 (by decide) (fun q33 => ?_) (fun q33 => ?_)
      ·
        exact hJ39 _
      ·
        refine s_v (fun _ k => tk_goto (tgt := 124) G dX9_counts_36 (by decide) k) ?_
        refine s_v (fun _ k => tk_iinc (al' := [(5, .int (y6_5 + 1)), (0, .ref (e_ad E a0)), (1, .int a1), (2, .int a2), (3, .int a3), (4, .int y6_4)]) G dX9_counts_124 5 rfl (ci_1 _) (by decide) rfl (tk_goto (tgt := 6) G dX9_counts_127 (by decide) k)) ?_
        refine s_sub [1, 2, 3, 4, 5, 0] (al' := [(0, .ref (e_ad E a0)), (1, .int a1), (2, .int a2), (3, .int a3), (4, .int y6_4), (5, .int (y6_5 + 1))]) rfl ?_
        exact hL6 _ _ _
theorem c_X9_counts (E : tkE) (h : tkH) (a0 : Nat) (a1 : Int32) (a2 : Int32) (a3 : Int32) (k0 : kd a0 = 12) : ∀ x, f_X9_counts h a0 a1 a2 a3 = some x → tkM E yX9_counts cX9_counts 7 (some .int) 1 tkF [.ref (e_ad E a0), .int a1, .int a2, .int a3] h (some (.int x.1)) x.2 := fun x hx => tkM_of (by decide) (Nat.le_of_ble_eq_true rfl) (fun _ hR G => w_X9_counts hR G h a0 a1 a2 a3 k0 x hx)
set_option maxRecDepth 100000 in
set_option maxHeartbeats 4000000 in
theorem w_X9_isMotif {E : tkE} {X : tkX} (hR : x_R X = tkR 1) (G : tkG E X cX9_isMotif 1 RX9 (some .boolean)) (h : tkH) (a0 : Int32)  : tkS E X 1 0 0 (tkZi E X) 0 [(0, .int a0)] [] h (f_X9_isMotif h a0) := by
  unfold f_X9_isMotif
  refine s_v (fun _ k => tk_iload_n G dX9_isMotif_0 0 rfl (tk_iconst G dX9_isMotif_1 cI_0 (tk_bipush G dX9_isMotif_2 cB_15 k))) ?_
  refine s_callSI (As := [.int a0, .int 0, .int 15]) G dX9_isMotif_4 wY_X9_within wM_X9_50 wI_X9_within (tk_rm hR (by decide) (by decide)) (c_X9_within E h a0 0 15) rfl rfl (Nat.le_of_ble_eq_true rfl) ⟨Nat.zero_le _, Nat.zero_le _⟩ (fun x4 => ?_)
  exact s_zretG G dX9_isMotif_7
theorem c_X9_isMotif (E : tkE) (h : tkH) (a0 : Int32)  : ∀ x, f_X9_isMotif h a0 = some x → tkM E yX9_isMotif cX9_isMotif 1 (some .boolean) 1 tkF [.int a0] h (some (.int x.1)) x.2 := fun x hx => tkM_of (by decide) (Nat.le_of_ble_eq_true rfl) (fun _ hR G => w_X9_isMotif hR G h a0  x hx)
set_option maxRecDepth 100000 in
set_option maxHeartbeats 4000000 in
theorem w_X9_isPlace {E : tkE} {X : tkX} (hR : x_R X = tkR 1) (G : tkG E X cX9_isPlace 1 RX9 (some .boolean)) (h : tkH) (a0 : Int32)  : tkS E X 1 0 0 (tkZi E X) 0 [(0, .int a0)] [] h (f_X9_isPlace h a0) := by
  unfold f_X9_isPlace
  refine s_v (fun _ k => tk_iload_n G dX9_isPlace_0 0 rfl (tk_iconst G dX9_isPlace_1 cI_0 (tk_iconst G dX9_isPlace_2 cI_5 k))) ?_
  refine s_callSI (As := [.int a0, .int 0, .int 5]) G dX9_isPlace_3 wY_X9_within wM_X9_50 wI_X9_within (tk_rm hR (by decide) (by decide)) (c_X9_within E h a0 0 5) rfl rfl (Nat.le_of_ble_eq_true rfl) ⟨Nat.zero_le _, Nat.zero_le _⟩ (fun x3 => ?_)
  exact s_zretG G dX9_isPlace_6
theorem c_X9_isPlace (E : tkE) (h : tkH) (a0 : Int32)  : ∀ x, f_X9_isPlace h a0 = some x → tkM E yX9_isPlace cX9_isPlace 1 (some .boolean) 1 tkF [.int a0] h (some (.int x.1)) x.2 := fun x hx => tkM_of (by decide) (Nat.le_of_ble_eq_true rfl) (fun _ hR G => w_X9_isPlace hR G h a0  x hx)
set_option maxRecDepth 100000 in
set_option maxHeartbeats 4000000 in
theorem w_X9_isRole {E : tkE} {X : tkX} (hR : x_R X = tkR 1) (G : tkG E X cX9_isRole 1 RX9 (some .boolean)) (h : tkH) (a0 : Int32)  : tkS E X 1 0 0 (tkZi E X) 0 [(0, .int a0)] [] h (f_X9_isRole h a0) := by
  unfold f_X9_isRole
  refine s_v (fun _ k => tk_iload_n G dX9_isRole_0 0 rfl (tk_iconst G dX9_isRole_1 cI_0 (tk_iconst G dX9_isRole_2 cI_3 k))) ?_
  refine s_callSI (As := [.int a0, .int 0, .int 3]) G dX9_isRole_3 wY_X9_within wM_X9_50 wI_X9_within (tk_rm hR (by decide) (by decide)) (c_X9_within E h a0 0 3) rfl rfl (Nat.le_of_ble_eq_true rfl) ⟨Nat.zero_le _, Nat.zero_le _⟩ (fun x3 => ?_)
  exact s_zretG G dX9_isRole_6
theorem c_X9_isRole (E : tkE) (h : tkH) (a0 : Int32)  : ∀ x, f_X9_isRole h a0 = some x → tkM E yX9_isRole cX9_isRole 1 (some .boolean) 1 tkF [.int a0] h (some (.int x.1)) x.2 := fun x hx => tkM_of (by decide) (Nat.le_of_ble_eq_true rfl) (fun _ hR G => w_X9_isRole hR G h a0  x hx)
set_option maxRecDepth 100000 in
set_option maxHeartbeats 4000000 in
theorem w_X9_isSame {E : tkE} {X : tkX} (hR : x_R X = tkR 1) (G : tkG E X cX9_isSame 5 RX9 (some .boolean)) (h : tkH) (a0 : Nat) (a1 : Int32) (a2 : Int32) (a3 : Int32) (a4 : Int32) (k0 : kd a0 = 12) : tkS E X 5 0 0 (tkZi E X) 0 [(0, .ref (e_ad E a0)), (1, .int a1), (2, .int a2), (3, .int a3), (4, .int a4)] [] h (f_X9_isSame h a0 a1 a2 a3 a4) := by
  unfold f_X9_isSame
  refine s_v (fun _ k => tk_aload_n G dX9_isSame_0 0 rfl (tk_iload_n G dX9_isSame_1 1 rfl (tk_iload_n G dX9_isSame_2 2 rfl (tk_iconst G dX9_isSame_3 cI_0 k)))) ?_
  refine s_callVI (As := [.int a1, .int a2, .int 0]) G dX9_isSame_4 wY_X9_stepOf wM_X9_89 wI_X9_stepOf wS_X9_stepOf (tk_rm hR (by decide) (by decide)) kX9 k0 (by decide) (c_X9_stepOf E h a0 a1 a2 0 k0) rfl rfl (Nat.le_of_ble_eq_true rfl) ⟨Nat.zero_le _, Nat.zero_le _⟩ (fun x4 => ?_)
  refine s_v (fun _ k => tk_aload_n G dX9_isSame_7 0 rfl (tk_iload_n G dX9_isSame_8 3 rfl (tk_iload G dX9_isSame_9 4 rfl (tk_iconst G dX9_isSame_11 cI_0 k)))) ?_
  refine s_callVI (As := [.int a3, .int a4, .int 0]) G dX9_isSame_12 wY_X9_stepOf wM_X9_89 wI_X9_stepOf wS_X9_stepOf (tk_rm hR (by decide) (by decide)) kX9 k0 (by decide) (c_X9_stepOf E x4.2 a0 a3 a4 0 k0) rfl rfl (Nat.le_of_ble_eq_true rfl) ⟨Nat.zero_le _, Nat.zero_le _⟩ (fun x12 => ?_)
  refine s_icmp_ne (tgt := 68) G dX9_isSame_15 (by decide) (fun q15 => ?_) (fun q15 => ?_)
  ·
    refine s_v (fun _ k => tk_aload_n G dX9_isSame_18 0 rfl (tk_gr G kX9 dX9_isSame_19 wF_X9_25 k0 gR_9_7 (tk_aload_n G dX9_isSame_22 0 rfl (tk_iload_n G dX9_isSame_23 1 rfl (tk_iload_n G dX9_isSame_24 2 rfl (tk_iconst G dX9_isSame_25 cI_1 k)))))) ?_
    refine s_callVI (As := [.int a1, .int a2, .int 1]) G dX9_isSame_26 wY_X9_stepOf wM_X9_89 wI_X9_stepOf wS_X9_stepOf (tk_rm hR (by decide) (by decide)) kX9 k0 (by decide) (c_X9_stepOf E x12.2 a0 a1 a2 1 k0) rfl rfl (Nat.le_of_ble_eq_true rfl) ⟨Nat.zero_le _, Nat.zero_le _⟩ (fun x26 => ?_)
    refine s_iald G dX9_isSame_29 (kF_9_7 k0) (fun v29 => ?_)
    refine s_v (fun _ k => tk_aload_n G dX9_isSame_30 0 rfl (tk_iload_n G dX9_isSame_31 3 rfl (tk_iload G dX9_isSame_32 4 rfl (tk_iconst G dX9_isSame_34 cI_1 k)))) ?_
    refine s_callVI (As := [.int a3, .int a4, .int 1]) G dX9_isSame_35 wY_X9_stepOf wM_X9_89 wI_X9_stepOf wS_X9_stepOf (tk_rm hR (by decide) (by decide)) kX9 k0 (by decide) (c_X9_stepOf E x26.2 a0 a3 a4 1 k0) rfl rfl (Nat.le_of_ble_eq_true rfl) ⟨Nat.zero_le _, Nat.zero_le _⟩ (fun x35 => ?_)
    refine s_icmp_ne (tgt := 68) G dX9_isSame_38 (by decide) (fun q38 => ?_) (fun q38 => ?_)
    ·
      refine s_v (fun _ k => tk_aload_n G dX9_isSame_41 0 rfl (tk_gr G kX9 dX9_isSame_42 wF_X9_25 k0 gR_9_7 (tk_aload_n G dX9_isSame_45 0 rfl (tk_iload_n G dX9_isSame_46 1 rfl (tk_iload_n G dX9_isSame_47 2 rfl (tk_iconst G dX9_isSame_48 cI_2 k)))))) ?_
      refine s_callVI (As := [.int a1, .int a2, .int 2]) G dX9_isSame_49 wY_X9_stepOf wM_X9_89 wI_X9_stepOf wS_X9_stepOf (tk_rm hR (by decide) (by decide)) kX9 k0 (by decide) (c_X9_stepOf E x35.2 a0 a1 a2 2 k0) rfl rfl (Nat.le_of_ble_eq_true rfl) ⟨Nat.zero_le _, Nat.zero_le _⟩ (fun x49 => ?_)
      refine s_iald G dX9_isSame_52 (kF_9_7 k0) (fun v52 => ?_)
      refine s_v (fun _ k => tk_aload_n G dX9_isSame_53 0 rfl (tk_iload_n G dX9_isSame_54 3 rfl (tk_iload G dX9_isSame_55 4 rfl (tk_iconst G dX9_isSame_57 cI_2 k)))) ?_
      refine s_callVI (As := [.int a3, .int a4, .int 2]) G dX9_isSame_58 wY_X9_stepOf wM_X9_89 wI_X9_stepOf wS_X9_stepOf (tk_rm hR (by decide) (by decide)) kX9 k0 (by decide) (c_X9_stepOf E x49.2 a0 a3 a4 2 k0) rfl rfl (Nat.le_of_ble_eq_true rfl) ⟨Nat.zero_le _, Nat.zero_le _⟩ (fun x58 => ?_)
      refine s_icmp_ne (tgt := 68) G dX9_isSame_61 (by decide) (fun q61 => ?_) (fun q61 => ?_)
      ·
        refine s_v (fun _ k => tk_iconst G dX9_isSame_64 cI_1 (tk_goto (tgt := 69) G dX9_isSame_65 (by decide) k)) ?_
        exact s_zret G dX9_isSame_69 (by decide)
      ·
        refine s_v (fun _ k => tk_iconst G dX9_isSame_68 cI_0 k) ?_
        exact s_zret G dX9_isSame_69 (by decide)
    ·
      refine s_v (fun _ k => tk_iconst G dX9_isSame_68 cI_0 k) ?_
      exact s_zret G dX9_isSame_69 (by decide)
  ·
    refine s_v (fun _ k => tk_iconst G dX9_isSame_68 cI_0 k) ?_
    exact s_zret G dX9_isSame_69 (by decide)
theorem c_X9_isSame (E : tkE) (h : tkH) (a0 : Nat) (a1 : Int32) (a2 : Int32) (a3 : Int32) (a4 : Int32) (k0 : kd a0 = 12) : ∀ x, f_X9_isSame h a0 a1 a2 a3 a4 = some x → tkM E yX9_isSame cX9_isSame 5 (some .boolean) 1 tkF [.ref (e_ad E a0), .int a1, .int a2, .int a3, .int a4] h (some (.int x.1)) x.2 := fun x hx => tkM_of (by decide) (Nat.le_of_ble_eq_true rfl) (fun _ hR G => w_X9_isSame hR G h a0 a1 a2 a3 a4 k0 x hx)
set_option maxRecDepth 100000 in
set_option maxHeartbeats 4000000 in
theorem w_X9_isSheet {E : tkE} {X : tkX} (hR : x_R X = tkR 1) (G : tkG E X cX9_isSheet 1 RX9 (some .boolean)) (h : tkH) (a0 : Int32)  : tkS E X 1 0 0 (tkZi E X) 0 [(0, .int a0)] [] h (f_X9_isSheet h a0) := by
  unfold f_X9_isSheet
  refine s_v (fun _ k => tk_iload_n G dX9_isSheet_0 0 rfl (tk_iconst G dX9_isSheet_1 cI_0 (tk_iconst G dX9_isSheet_2 cI_3 k))) ?_
  refine s_callSI (As := [.int a0, .int 0, .int 3]) G dX9_isSheet_3 wY_X9_within wM_X9_50 wI_X9_within (tk_rm hR (by decide) (by decide)) (c_X9_within E h a0 0 3) rfl rfl (Nat.le_of_ble_eq_true rfl) ⟨Nat.zero_le _, Nat.zero_le _⟩ (fun x3 => ?_)
  exact s_zretG G dX9_isSheet_6
theorem c_X9_isSheet (E : tkE) (h : tkH) (a0 : Int32)  : ∀ x, f_X9_isSheet h a0 = some x → tkM E yX9_isSheet cX9_isSheet 1 (some .boolean) 1 tkF [.int a0] h (some (.int x.1)) x.2 := fun x hx => tkM_of (by decide) (Nat.le_of_ble_eq_true rfl) (fun _ hR G => w_X9_isSheet hR G h a0  x hx)
set_option maxRecDepth 100000 in
set_option maxHeartbeats 4000000 in
theorem w_X9_isTale {E : tkE} {X : tkX} (hR : x_R X = tkR 1) (G : tkG E X cX9_isTale 2 RX9 (some .boolean)) (h : tkH) (a0 : Nat) (a1 : Int32) (k0 : kd a0 = 12) : tkS E X 2 0 0 (tkZi E X) 0 [(0, .ref (e_ad E a0)), (1, .int a1)] [] h (f_X9_isTale h a0 a1) := by
  unfold f_X9_isTale
  refine s_v (fun _ k => tk_iload_n G dX9_isTale_0 1 rfl (tk_iconst G dX9_isTale_1 cI_0 (tk_aload_n G dX9_isTale_2 0 rfl (tk_gr G kX9 dX9_isTale_3 wF_X9_9 k0 gR_9_0 (tk_iconst G dX9_isTale_6 cI_0 k))))) ?_
  refine s_iald G dX9_isTale_7 (kF_9_0 k0) (fun v7 => ?_)
  refine s_v (fun _ k => tk_iconst G dX9_isTale_8 cI_1 (tk_isub G dX9_isTale_9 k)) ?_
  refine s_callSI (As := [.int a1, .int 0, .int (v7 - 1)]) G dX9_isTale_10 wY_X9_within wM_X9_50 wI_X9_within (tk_rm hR (by decide) (by decide)) (c_X9_within E h a1 0 (v7 - 1)) rfl rfl (Nat.le_of_ble_eq_true rfl) ⟨Nat.zero_le _, Nat.zero_le _⟩ (fun x10 => ?_)
  exact s_zretG G dX9_isTale_13
theorem c_X9_isTale (E : tkE) (h : tkH) (a0 : Nat) (a1 : Int32) (k0 : kd a0 = 12) : ∀ x, f_X9_isTale h a0 a1 = some x → tkM E yX9_isTale cX9_isTale 2 (some .boolean) 1 tkF [.ref (e_ad E a0), .int a1] h (some (.int x.1)) x.2 := fun x hx => tkM_of (by decide) (Nat.le_of_ble_eq_true rfl) (fun _ hR G => w_X9_isTale hR G h a0 a1 k0 x hx)
set_option maxRecDepth 100000 in
set_option maxHeartbeats 4000000 in
theorem w_X9_laidFrom {E : tkE} {X : tkX} (hR : x_R X = tkR 1) (G : tkG E X cX9_laidFrom 2 RX9 (some .int)) (h : tkH) (a0 : Nat) (a1 : Int32) (k0 : kd a0 = 12) : tkS E X 2 0 0 (tkZi E X) 0 [(0, .ref (e_ad E a0)), (1, .int a1)] [] h (f_X9_laidFrom h a0 a1) := by
  unfold f_X9_laidFrom
  refine s_v (fun _ k => tk_aload_n G dX9_laidFrom_0 0 rfl (tk_iload_n G dX9_laidFrom_1 1 rfl k)) ?_
  refine s_callVI (As := [.int a1]) G dX9_laidFrom_2 wY_X9_isCut wM_X9_93 wI_X9_isCut wS_X9_isCut (tk_rm hR (by decide) (by decide)) kX9 k0 (by decide) (c_X9_isCut E h a0 a1 k0) rfl rfl (Nat.le_of_ble_eq_true rfl) ⟨Nat.zero_le _, Nat.zero_le _⟩ (fun x2 => ?_)
  refine s_if_eq (tgt := 12) G dX9_laidFrom_5 (by decide) (fun q5 => ?_) (fun q5 => ?_)
  ·
    refine s_v (fun _ k => tk_iconst G dX9_laidFrom_12 cI_0 k) ?_
    exact s_iret G dX9_laidFrom_13
  ·
    refine s_v (fun _ k => tk_iconst G dX9_laidFrom_8 cI_1 (tk_goto (tgt := 13) G dX9_laidFrom_9 (by decide) k)) ?_
    exact s_iret G dX9_laidFrom_13
theorem c_X9_laidFrom (E : tkE) (h : tkH) (a0 : Nat) (a1 : Int32) (k0 : kd a0 = 12) : ∀ x, f_X9_laidFrom h a0 a1 = some x → tkM E yX9_laidFrom cX9_laidFrom 2 (some .int) 1 tkF [.ref (e_ad E a0), .int a1] h (some (.int x.1)) x.2 := fun x hx => tkM_of (by decide) (Nat.le_of_ble_eq_true rfl) (fun _ hR G => w_X9_laidFrom hR G h a0 a1 k0 x hx)
set_option maxRecDepth 100000 in
set_option maxHeartbeats 4000000 in
theorem w_X9_leastFrom {E : tkE} {X : tkX} (hR : x_R X = tkR 1) (G : tkG E X cX9_leastFrom 3 RX9 (some .int)) (h : tkH) (a0 : Nat) (a1 : Int32) (a2 : Int32) (k0 : kd a0 = 12) : tkS E X 3 0 0 (tkZi E X) 0 [(0, .ref (e_ad E a0)), (1, .int a1), (2, .int a2)] [] h (f_X9_leastFrom h a0 a1 a2) := by
  unfold f_X9_leastFrom
  refine s_v (fun _ k => tk_aload_n G dX9_leastFrom_0 0 rfl (tk_iload_n G dX9_leastFrom_1 1 rfl (tk_iload_n G dX9_leastFrom_2 2 rfl k))) ?_
  refine s_callVI (As := [.int a1, .int a2]) G dX9_leastFrom_3 wY_X9_pairsLeft wM_X9_136 wI_X9_pairsLeft wS_X9_pairsLeft (tk_rm hR (by decide) (by decide)) kX9 k0 (by decide) (c_X9_pairsLeft E h a0 a1 a2 k0) rfl rfl (Nat.le_of_ble_eq_true rfl) ⟨Nat.zero_le _, Nat.zero_le _⟩ (fun x3 => ?_)
  refine s_v (fun _ k => tk_aload_n G dX9_leastFrom_6 0 rfl (tk_iload_n G dX9_leastFrom_7 1 rfl (tk_iload_n G dX9_leastFrom_8 2 rfl k))) ?_
  refine s_callVI (As := [.int a1, .int a2]) G dX9_leastFrom_9 wY_X9_endCost wM_X9_140 wI_X9_endCost wS_X9_endCost (tk_rm hR (by decide) (by decide)) kX9 k0 (by decide) (c_X9_endCost E x3.2 a0 a1 a2 k0) rfl rfl (Nat.le_of_ble_eq_true rfl) ⟨Nat.zero_le _, Nat.zero_le _⟩ (fun x9 => ?_)
  refine s_v (fun _ k => tk_mmin G dX9_leastFrom_12 wM_X9_143 (tk_rmm hR (by decide) (Nat.le_of_ble_eq_true rfl)) ⟨Nat.zero_le _, Nat.zero_le _⟩ k) ?_
  exact s_iret G dX9_leastFrom_15
theorem c_X9_leastFrom (E : tkE) (h : tkH) (a0 : Nat) (a1 : Int32) (a2 : Int32) (k0 : kd a0 = 12) : ∀ x, f_X9_leastFrom h a0 a1 a2 = some x → tkM E yX9_leastFrom cX9_leastFrom 3 (some .int) 1 tkF [.ref (e_ad E a0), .int a1, .int a2] h (some (.int x.1)) x.2 := fun x hx => tkM_of (by decide) (Nat.le_of_ble_eq_true rfl) (fun _ hR G => w_X9_leastFrom hR G h a0 a1 a2 k0 x hx)
set_option maxRecDepth 100000 in
set_option maxHeartbeats 4000000 in
theorem w_X9_noHeap {E : tkE} {X : tkX} (hR : x_R X = tkR 1) (G : tkG E X cX9_noHeap 2 RX9 (some .int)) (h : tkH) (a0 : Nat) (a1 : Int32) (k0 : kd a0 = 12) : tkS E X 2 0 0 (tkZi E X) 0 [(0, .ref (e_ad E a0)), (1, .int a1)] [] h (f_X9_noHeap h a0 a1) := by
  unfold f_X9_noHeap
  refine s_v (fun _ k => tk_iload_n G dX9_noHeap_0 1 rfl (tk_iconst G dX9_noHeap_1 cI_0 (tk_iconst G dX9_noHeap_2 cI_1 (tk_aload_n G dX9_noHeap_3 0 rfl (tk_gr G kX9 dX9_noHeap_4 wF_X9_9 k0 gR_9_0 (tk_iconst G dX9_noHeap_7 cI_0 k)))))) ?_
  refine s_iald G dX9_noHeap_8 (kF_9_0 k0) (fun v8 => ?_)
  refine s_v (fun _ k => tk_ishl G dX9_noHeap_9 (tk_iconst G dX9_noHeap_10 cI_1 (tk_isub G dX9_noHeap_11 k))) ?_
  refine s_callSI (As := [.int a1, .int 0, .int ((1 <<< (v8 &&& 31)) - 1)]) G dX9_noHeap_12 wY_X9_within wM_X9_50 wI_X9_within (tk_rm hR (by decide) (by decide)) (c_X9_within E h a1 0 ((1 <<< (v8 &&& 31)) - 1)) rfl rfl (Nat.le_of_ble_eq_true rfl) ⟨Nat.zero_le _, Nat.zero_le _⟩ (fun x12 => ?_)
  refine s_if_ne (tgt := 23) G dX9_noHeap_15 (by decide) (fun q15 => ?_) (fun q15 => ?_)
  ·
    refine s_v (fun _ k => tk_ldc G dX9_noHeap_18 wK_X9_66 (tk_goto (tgt := 33) G dX9_noHeap_20 (by decide) k)) ?_
    exact s_iret G dX9_noHeap_33
  ·
    refine s_v (fun _ k => tk_iload_n G dX9_noHeap_23 1 rfl k) ?_
    refine s_if_ne (tgt := 32) G dX9_noHeap_24 (by decide) (fun q24 => ?_) (fun q24 => ?_)
    ·
      refine s_v (fun _ k => tk_ldc G dX9_noHeap_27 wK_X9_57 (tk_goto (tgt := 33) G dX9_noHeap_29 (by decide) k)) ?_
      exact s_iret G dX9_noHeap_33
    ·
      refine s_v (fun _ k => tk_iconst G dX9_noHeap_32 cI_0 k) ?_
      exact s_iret G dX9_noHeap_33
theorem c_X9_noHeap (E : tkE) (h : tkH) (a0 : Nat) (a1 : Int32) (k0 : kd a0 = 12) : ∀ x, f_X9_noHeap h a0 a1 = some x → tkM E yX9_noHeap cX9_noHeap 2 (some .int) 1 tkF [.ref (e_ad E a0), .int a1] h (some (.int x.1)) x.2 := fun x hx => tkM_of (by decide) (Nat.le_of_ble_eq_true rfl) (fun _ hR G => w_X9_noHeap hR G h a0 a1 k0 x hx)
set_option maxRecDepth 100000 in
set_option maxHeartbeats 4000000 in
theorem w_X9_pairCost {E : tkE} {X : tkX} (hR : x_R X = tkR 1) (G : tkG E X cX9_pairCost 5 RX9 (some .int)) (h : tkH) (a0 : Nat) (a1 : Int32) (a2 : Int32) (k0 : kd a0 = 12) : tkS E X 5 0 0 (tkZi E X) 0 [(0, .ref (e_ad E a0)), (1, .int a1), (2, .int a2)] [] h (f_X9_pairCost h a0 a1 a2) := by
  unfold f_X9_pairCost
  refine s_v (fun _ k => tk_aload_n G dX9_pairCost_0 0 rfl (tk_aload_n G dX9_pairCost_1 0 rfl (tk_gi G kX9 dX9_pairCost_2 wF_X9_104 k0 gI_9_8 (tk_iload_n G dX9_pairCost_5 1 rfl (tk_iconst G dX9_pairCost_6 cI_0 k))))) ?_
  refine s_callVI (As := [.int (h a0 8), .int a1, .int 0]) G dX9_pairCost_7 wY_X9_stepOf wM_X9_89 wI_X9_stepOf wS_X9_stepOf (tk_rm hR (by decide) (by decide)) kX9 k0 (by decide) (c_X9_stepOf E h a0 (h a0 8) a1 0 k0) rfl rfl (Nat.le_of_ble_eq_true rfl) ⟨Nat.zero_le _, Nat.zero_le _⟩ (fun x7 => ?_)
  refine s_v (fun _ k => tk_aload_n G dX9_pairCost_10 0 rfl (tk_aload_n G dX9_pairCost_11 0 rfl (tk_gi G kX9 dX9_pairCost_12 wF_X9_124 k0 gI_9_12 (tk_iload_n G dX9_pairCost_15 2 rfl (tk_iconst G dX9_pairCost_16 cI_0 k))))) ?_
  refine s_callVI (As := [.int ((x7.2) a0 12), .int a2, .int 0]) G dX9_pairCost_17 wY_X9_stepOf wM_X9_89 wI_X9_stepOf wS_X9_stepOf (tk_rm hR (by decide) (by decide)) kX9 k0 (by decide) (c_X9_stepOf E x7.2 a0 ((x7.2) a0 12) a2 0 k0) rfl rfl (Nat.le_of_ble_eq_true rfl) ⟨Nat.zero_le _, Nat.zero_le _⟩ (fun x17 => ?_)
  have hJ33 : ∀ (g33 : tkH) (t33_0 : Int32), tkS E X 5 0 0 (tkZi E X) 33 [(0, .ref (e_ad E a0)), (1, .int a1), (2, .int a2)] [.int t33_0] g33 (f_X9_pairCost_J33 a0 a1 a2 g33 t33_0) := by
    intro g33 t33_0
    unfold f_X9_pairCost_J33
    refine s_v (fun _ k => tk_istore_n (al' := [(3, .int t33_0), (0, .ref (e_ad E a0)), (1, .int a1), (2, .int a2)]) G dX9_pairCost_33 (by decide) rfl (tk_iconst G dX9_pairCost_34 cI_1 (tk_istore (al' := [(4, .int 1), (3, .int t33_0), (0, .ref (e_ad E a0)), (1, .int a1), (2, .int a2)]) G dX9_pairCost_35 (by decide) rfl k))) ?_
    refine s_sub [2, 3, 4, 1, 0] (al' := [(0, .ref (e_ad E a0)), (1, .int a1), (2, .int a2), (3, .int t33_0), (4, .int 1)]) rfl ?_
    unfold f_X9_pairCost_L37
    refine s_lp2 (al := fun y37_3 y37_4 => [(0, .ref (e_ad E a0)), (1, .int a1), (2, .int a2), (3, .int y37_3), (4, .int y37_4)]) (fun kk37 hL37 g37 y37_3 y37_4 => ?_) _ _ _ _
    refine s_v (fun _ k => tk_iload G dX9_pairCost_37 4 rfl (tk_iconst G dX9_pairCost_39 cI_3 k)) ?_
    refine s_icmp_ge (tgt := 92) G dX9_pairCost_40 (by decide) (fun q40 => ?_) (fun q40 => ?_)
    ·
      refine s_v (fun _ k => tk_iload_n G dX9_pairCost_92 3 rfl k) ?_
      exact s_iret G dX9_pairCost_93
    ·
      refine s_v (fun _ k => tk_iload_n G dX9_pairCost_43 3 rfl (tk_aload_n G dX9_pairCost_44 0 rfl (tk_gr G kX9 dX9_pairCost_45 wF_X9_25 k0 gR_9_7 (tk_aload_n G dX9_pairCost_48 0 rfl (tk_aload_n G dX9_pairCost_49 0 rfl (tk_gi G kX9 dX9_pairCost_50 wF_X9_104 k0 gI_9_8 (tk_iload_n G dX9_pairCost_53 1 rfl (tk_iload G dX9_pairCost_54 4 rfl k)))))))) ?_
      refine s_callVI (As := [.int (g37 a0 8), .int a1, .int y37_4]) G dX9_pairCost_56 wY_X9_stepOf wM_X9_89 wI_X9_stepOf wS_X9_stepOf (tk_rm hR (by decide) (by decide)) kX9 k0 (by decide) (c_X9_stepOf E g37 a0 (g37 a0 8) a1 y37_4 k0) rfl rfl (Nat.le_of_ble_eq_true rfl) ⟨Nat.zero_le _, Nat.zero_le _⟩ (fun x56 => ?_)
      refine s_iald G dX9_pairCost_59 (kF_9_7 k0) (fun v59 => ?_)
      refine s_v (fun _ k => tk_aload_n G dX9_pairCost_60 0 rfl (tk_aload_n G dX9_pairCost_61 0 rfl (tk_gi G kX9 dX9_pairCost_62 wF_X9_124 k0 gI_9_12 (tk_iload_n G dX9_pairCost_65 2 rfl (tk_iload G dX9_pairCost_66 4 rfl k))))) ?_
      refine s_callVI (As := [.int ((x56.2) a0 12), .int a2, .int y37_4]) G dX9_pairCost_68 wY_X9_stepOf wM_X9_89 wI_X9_stepOf wS_X9_stepOf (tk_rm hR (by decide) (by decide)) kX9 k0 (by decide) (c_X9_stepOf E x56.2 a0 ((x56.2) a0 12) a2 y37_4 k0) rfl rfl (Nat.le_of_ble_eq_true rfl) ⟨Nat.zero_le _, Nat.zero_le _⟩ (fun x68 => ?_)
      refine s_icmp_ne (tgt := 78) G dX9_pairCost_71 (by decide) (fun q71 => ?_) (fun q71 => ?_)
      ·
        refine s_v (fun _ k => tk_iconst G dX9_pairCost_74 cI_0 (tk_goto (tgt := 84) G dX9_pairCost_75 (by decide) k)) ?_
        refine s_v (fun _ k => tk_iadd G dX9_pairCost_84 (tk_istore_n (al' := [(3, .int (y37_3 + 0)), (0, .ref (e_ad E a0)), (1, .int a1), (2, .int a2), (4, .int y37_4)]) G dX9_pairCost_85 (by decide) rfl (tk_iinc (al' := [(4, .int (y37_4 + 1)), (3, .int (y37_3 + 0)), (0, .ref (e_ad E a0)), (1, .int a1), (2, .int a2)]) G dX9_pairCost_86 4 rfl (ci_1 _) (by decide) rfl (tk_goto (tgt := 37) G dX9_pairCost_89 (by decide) k)))) ?_
        refine s_sub [2, 3, 4, 1, 0] (al' := [(0, .ref (e_ad E a0)), (1, .int a1), (2, .int a2), (3, .int (y37_3 + 0)), (4, .int (y37_4 + 1))]) rfl ?_
        exact hL37 _ _ _
      ·
        refine s_v (fun _ k => tk_aload_n G dX9_pairCost_78 0 rfl (tk_gr G kX9 dX9_pairCost_79 wF_X9_9 k0 gR_9_0 (tk_iconst G dX9_pairCost_82 cI_2 k))) ?_
        refine s_iald G dX9_pairCost_83 (kF_9_0 k0) (fun v83 => ?_)
        refine s_v (fun _ k => tk_iadd G dX9_pairCost_84 (tk_istore_n (al' := [(3, .int (y37_3 + v83)), (0, .ref (e_ad E a0)), (1, .int a1), (2, .int a2), (4, .int y37_4)]) G dX9_pairCost_85 (by decide) rfl (tk_iinc (al' := [(4, .int (y37_4 + 1)), (3, .int (y37_3 + v83)), (0, .ref (e_ad E a0)), (1, .int a1), (2, .int a2)]) G dX9_pairCost_86 4 rfl (ci_1 _) (by decide) rfl (tk_goto (tgt := 37) G dX9_pairCost_89 (by decide) k)))) ?_
        refine s_sub [2, 3, 4, 1, 0] (al' := [(0, .ref (e_ad E a0)), (1, .int a1), (2, .int a2), (3, .int (y37_3 + v83)), (4, .int (y37_4 + 1))]) rfl ?_
        exact hL37 _ _ _
  refine s_icmp_ne (tgt := 27) G dX9_pairCost_20 (by decide) (fun q20 => ?_) (fun q20 => ?_)
  ·
    refine s_v (fun _ k => tk_iconst G dX9_pairCost_23 cI_0 (tk_goto (tgt := 33) G dX9_pairCost_24 (by decide) k)) ?_
    exact hJ33 _ _
  ·
    refine s_v (fun _ k => tk_aload_n G dX9_pairCost_27 0 rfl (tk_gr G kX9 dX9_pairCost_28 wF_X9_9 k0 gR_9_0 (tk_iconst G dX9_pairCost_31 cI_1 k))) ?_
    refine s_iald G dX9_pairCost_32 (kF_9_0 k0) (fun v32 => ?_)
    exact hJ33 _ _
theorem c_X9_pairCost (E : tkE) (h : tkH) (a0 : Nat) (a1 : Int32) (a2 : Int32) (k0 : kd a0 = 12) : ∀ x, f_X9_pairCost h a0 a1 a2 = some x → tkM E yX9_pairCost cX9_pairCost 5 (some .int) 1 tkF [.ref (e_ad E a0), .int a1, .int a2] h (some (.int x.1)) x.2 := fun x hx => tkM_of (by decide) (Nat.le_of_ble_eq_true rfl) (fun _ hR G => w_X9_pairCost hR G h a0 a1 a2 k0 x hx)
set_option maxRecDepth 100000 in
set_option maxHeartbeats 4000000 in
theorem w_X9_price {E : tkE} {X : tkX} (hR : x_R X = tkR 1) (G : tkG E X cX9_price 4 RX9 (some .int)) (h : tkH) (a0 : Nat) (a1 : Int32) (a2 : Int32) (k0 : kd a0 = 12) : tkS E X 4 0 0 (tkZi E X) 0 [(0, .ref (e_ad E a0)), (1, .int a1), (2, .int a2)] [] h (f_X9_price h a0 a1 a2) := by
  unfold f_X9_price
  refine s_v (fun _ k => tk_iload_n G dX9_price_0 1 rfl (tk_iconst G dX9_price_1 cI_0 (tk_iconst G dX9_price_2 cI_2 k))) ?_
  refine s_callSI (As := [.int a1, .int 0, .int 2]) G dX9_price_3 wY_X9_within wM_X9_50 wI_X9_within (tk_rm hR (by decide) (by decide)) (c_X9_within E h a1 0 2) rfl rfl (Nat.le_of_ble_eq_true rfl) ⟨Nat.zero_le _, Nat.zero_le _⟩ (fun x3 => ?_)
  have hJ19 : ∀ (g19 : tkH), tkS E X 4 0 0 (tkZi E X) 19 [(0, .ref (e_ad E a0))] [] g19 (f_X9_price_J19 a0 g19) := by
    intro g19
    unfold f_X9_price_J19
    refine s_v (fun _ k => tk_aload_n G dX9_price_19 0 rfl (tk_ldc G dX9_price_20 wK_X9_66 k)) ?_
    refine s_callVI (As := [.int (-100001)]) G dX9_price_22 wY_X9_finding wM_X9_58 wI_X9_finding wS_X9_finding (tk_rm hR (by decide) (by decide)) kX9 k0 (by decide) (c_X9_finding E g19 a0 (-100001) k0) rfl rfl (Nat.le_of_ble_eq_true rfl) ⟨Nat.zero_le _, Nat.zero_le _⟩ (fun x22 => ?_)
    exact s_iret G dX9_price_25
  refine s_if_eq (tgt := 19) G dX9_price_6 (by decide) (fun q6 => ?_) (fun q6 => ?_)
  ·
    refine s_sub [0] (al' := [(0, .ref (e_ad E a0))]) rfl ?_
    exact hJ19 _
  ·
    refine s_v (fun _ k => tk_iload_n G dX9_price_9 2 rfl (tk_iconst G dX9_price_10 cI_0 (tk_bipush G dX9_price_11 cB_9 k))) ?_
    refine s_callSI (As := [.int a2, .int 0, .int 9]) G dX9_price_13 wY_X9_within wM_X9_50 wI_X9_within (tk_rm hR (by decide) (by decide)) (c_X9_within E x3.2 a2 0 9) rfl rfl (Nat.le_of_ble_eq_true rfl) ⟨Nat.zero_le _, Nat.zero_le _⟩ (fun x13 => ?_)
    refine s_if_ne (tgt := 26) G dX9_price_16 (by decide) (fun q16 => ?_) (fun q16 => ?_)
    ·
      refine s_sub [0] (al' := [(0, .ref (e_ad E a0))]) rfl ?_
      exact hJ19 _
    ·
      refine s_v (fun _ k => tk_aload_n G dX9_price_26 0 rfl k) ?_
      refine s_callVV (As := []) G dX9_price_27 wY_X9_keep wM_X9_68 wI_X9_keep wS_X9_keep (tk_rm hR (by decide) (by decide)) kX9 k0 (by decide) (c_X9_keep E x13.2 a0 k0) rfl rfl (Nat.le_of_ble_eq_true rfl) ⟨Nat.zero_le _, Nat.zero_le _⟩ (fun x27 => ?_)
      refine s_v (fun _ k => tk_aload_n G dX9_price_30 0 rfl (tk_gr G kX9 dX9_price_31 wF_X9_9 k0 gR_9_0 (tk_iconst G dX9_price_34 cI_1 (tk_iload_n G dX9_price_35 1 rfl (tk_iadd G dX9_price_36 k))))) ?_
      refine s_iald G dX9_price_37 (kF_9_0 k0) (fun v37 => ?_)
      refine s_v (fun _ k => tk_istore_n (al' := [(3, .int v37), (0, .ref (e_ad E a0)), (1, .int a1), (2, .int a2)]) G dX9_price_38 (by decide) rfl (tk_aload_n G dX9_price_39 1 rfl (tk_gr G kX9 dX9_price_40 wF_X9_9 k0 gR_9_0 (tk_iconst G dX9_price_43 cI_1 (tk_iload_n G dX9_price_44 2 rfl (tk_iadd G dX9_price_45 (tk_iload_n G dX9_price_46 3 rfl k))))))) ?_
      refine s_iast G dX9_price_47 (kF_9_0 k0) (fun h47 => ?_)
      refine s_v (fun _ k => tk_iload_n G dX9_price_48 0 rfl k) ?_
      exact s_iret G dX9_price_49
theorem c_X9_price (E : tkE) (h : tkH) (a0 : Nat) (a1 : Int32) (a2 : Int32) (k0 : kd a0 = 12) : ∀ x, f_X9_price h a0 a1 a2 = some x → tkM E yX9_price cX9_price 4 (some .int) 1 tkF [.ref (e_ad E a0), .int a1, .int a2] h (some (.int x.1)) x.2 := fun x hx => tkM_of (by decide) (Nat.le_of_ble_eq_true rfl) (fun _ hR G => w_X9_price hR G h a0 a1 a2 k0 x hx)
set_option maxRecDepth 100000 in
set_option maxHeartbeats 4000000 in
theorem w_X9_undo {E : tkE} {X : tkX} (hR : x_R X = tkR 1) (G : tkG E X cX9_undo 2 RX9 (some .int)) (h : tkH) (a0 : Nat) (k0 : kd a0 = 12) : tkS E X 2 0 0 (tkZi E X) 0 [(0, .ref (e_ad E a0))] [] h (f_X9_undo h a0) := by
  unfold f_X9_undo
  refine s_v (fun _ k => tk_aload_n G dX9_undo_0 0 rfl (tk_gi G kX9 dX9_undo_1 wF_X9_54 k0 gI_9_2 k)) ?_
  refine s_if_ne (tgt := 14) G dX9_undo_4 (by decide) (fun q4 => ?_) (fun q4 => ?_)
  ·
    refine s_v (fun _ k => tk_aload_n G dX9_undo_7 0 rfl (tk_ldc G dX9_undo_8 wK_X9_57 k)) ?_
    refine s_callVI (As := [.int (-100006)]) G dX9_undo_10 wY_X9_finding wM_X9_58 wI_X9_finding wS_X9_finding (tk_rm hR (by decide) (by decide)) kX9 k0 (by decide) (c_X9_finding E h a0 (-100006) k0) rfl rfl (Nat.le_of_ble_eq_true rfl) ⟨Nat.zero_le _, Nat.zero_le _⟩ (fun x10 => ?_)
    exact s_iret G dX9_undo_13
  ·
    refine s_v (fun _ k => tk_aload_n G dX9_undo_14 0 rfl (tk_dup G dX9_undo_15 rfl (tk_gi G kX9 dX9_undo_16 wF_X9_54 k0 gI_9_2 (tk_iconst G dX9_undo_19 cI_1 (tk_isub G dX9_undo_20 (tk_pi G kX9 dX9_undo_21 wF_X9_54 k0 gP_9_2 (tk_iconst G dX9_undo_24 cI_0 (tk_istore_n (al' := [(1, .int 0), (0, .ref (e_ad E a0))]) G dX9_undo_25 (by decide) rfl k)))))))) ?_
    have hX60 : ∀ (gz60 : tkH), tkS E X 2 0 0 (tkZi E X) 60 [(0, .ref (e_ad E a0))] [] gz60 (some (gz60 a0 2, gz60)) := by
      intro gz60
      refine s_v (fun _ k => tk_aload_n G dX9_undo_60 0 rfl (tk_gi G kX9 dX9_undo_61 wF_X9_54 k0 gI_9_2 k)) ?_
      exact s_iret G dX9_undo_64
    refine s_sub [1, 0] (al' := [(0, .ref (e_ad E a0)), (1, .int 0)]) rfl ?_
    unfold f_X9_undo_L26
    refine s_lp1 (al := fun y26_1 => [(0, .ref (e_ad E a0)), (1, .int y26_1)]) (fun kk26 hL26 g26 y26_1 => ?_) _ _ _
    refine s_v (fun _ k => tk_iload_n G dX9_undo_26 1 rfl (tk_sipush G dX9_undo_27 cS_390 k)) ?_
    refine s_icmp_ge (tgt := 60) G dX9_undo_30 (by decide) (fun q30 => ?_) (fun q30 => ?_)
    ·
      refine s_sub [0] (al' := [(0, .ref (e_ad E a0))]) rfl ?_
      exact hX60 _
    ·
      refine s_v (fun _ k => tk_aload_n G dX9_undo_33 0 rfl (tk_gr G kX9 dX9_undo_34 wF_X9_9 k0 gR_9_0 (tk_iload_n G dX9_undo_37 1 rfl (tk_aload_n G dX9_undo_38 0 rfl (tk_gr G kX9 dX9_undo_39 wF_X9_13 k0 gR_9_1 (tk_aload_n G dX9_undo_42 0 rfl (tk_gi G kX9 dX9_undo_43 wF_X9_54 k0 gI_9_2 (tk_sipush G dX9_undo_46 cS_390 (tk_imul G dX9_undo_49 (tk_iload_n G dX9_undo_50 1 rfl (tk_iadd G dX9_undo_51 k))))))))))) ?_
      refine s_iald G dX9_undo_52 (kF_9_1 k0) (fun v52 => ?_)
      refine s_iast G dX9_undo_53 (kF_9_0 k0) (fun h53 => ?_)
      refine s_v (fun _ k => tk_iinc (al' := [(1, .int (y26_1 + 1)), (0, .ref (e_ad E a0))]) G dX9_undo_54 1 rfl (ci_1 _) (by decide) rfl (tk_goto (tgt := 26) G dX9_undo_57 (by decide) k)) ?_
      refine s_sub [1, 0] (al' := [(0, .ref (e_ad E a0)), (1, .int (y26_1 + 1))]) rfl ?_
      exact hL26 _ _
theorem c_X9_undo (E : tkE) (h : tkH) (a0 : Nat) (k0 : kd a0 = 12) : ∀ x, f_X9_undo h a0 = some x → tkM E yX9_undo cX9_undo 2 (some .int) 1 tkF [.ref (e_ad E a0)] h (some (.int x.1)) x.2 := fun x hx => tkM_of (by decide) (Nat.le_of_ble_eq_true rfl) (fun _ hR G => w_X9_undo hR G h a0 k0 x hx)
set_option maxRecDepth 100000 in
set_option maxHeartbeats 4000000 in
theorem w_X0_doubtsAt {E : tkE} {X : tkX} (hR : x_R X = tkR 2) (G : tkG E X cX0_doubtsAt 4 RX0 (some .int)) (h : tkH) (a0 : Nat) (a1 : Int32) (k0 : kd a0 = 3) : tkS E X 4 0 0 (tkZi E X) 0 [(0, .ref (e_ad E a0)), (1, .int a1)] [] h (f_X0_doubtsAt h a0 a1) := by
  unfold f_X0_doubtsAt
  refine s_v (fun _ k => tk_iconst G dX0_doubtsAt_0 cI_0 (tk_istore_n (al' := [(2, .int 0), (0, .ref (e_ad E a0)), (1, .int a1)]) G dX0_doubtsAt_1 (by decide) rfl (tk_iconst G dX0_doubtsAt_2 cI_0 (tk_istore_n (al' := [(3, .int 0), (2, .int 0), (0, .ref (e_ad E a0)), (1, .int a1)]) G dX0_doubtsAt_3 (by decide) rfl k)))) ?_
  refine s_sub [2, 3, 1, 0] (al' := [(0, .ref (e_ad E a0)), (1, .int a1), (2, .int 0), (3, .int 0)]) rfl ?_
  unfold f_X0_doubtsAt_L4
  refine s_lp2 (al := fun y4_2 y4_3 => [(0, .ref (e_ad E a0)), (1, .int a1), (2, .int y4_2), (3, .int y4_3)]) (fun kk4 hL4 g4 y4_2 y4_3 => ?_) _ _ _ _
  refine s_v (fun _ k => tk_iload_n G dX0_doubtsAt_4 3 rfl (tk_aload_n G dX0_doubtsAt_5 0 rfl (tk_gi G kX0 dX0_doubtsAt_6 wF_X0_36 k0 gI_0_0 k))) ?_
  refine s_icmp_ge (tgt := 49) G dX0_doubtsAt_9 (by decide) (fun q9 => ?_) (fun q9 => ?_)
  ·
    refine s_v (fun _ k => tk_iload_n G dX0_doubtsAt_49 2 rfl k) ?_
    exact s_iret G dX0_doubtsAt_50
  ·
    refine s_v (fun _ k => tk_aload_n G dX0_doubtsAt_12 0 rfl (tk_iload_n G dX0_doubtsAt_13 3 rfl (tk_iload_n G dX0_doubtsAt_14 1 rfl k))) ?_
    refine s_callVI (As := [.int y4_3, .int a1]) G dX0_doubtsAt_15 wY_X0_isAt wM_X0_81 wI_X0_isAt wS_X0_isAt (tk_rm hR (by decide) (by decide)) kX0 k0 (by decide) (c_X0_isAt E g4 a0 y4_3 a1 k0) rfl rfl (Nat.le_of_ble_eq_true rfl) ⟨Nat.zero_le _, Nat.zero_le _⟩ (fun x15 => ?_)
    refine s_if_eq (tgt := 43) G dX0_doubtsAt_18 (by decide) (fun q18 => ?_) (fun q18 => ?_)
    ·
      refine s_v (fun _ k => tk_iinc (al' := [(3, .int (y4_3 + 1)), (0, .ref (e_ad E a0)), (1, .int a1), (2, .int y4_2)]) G dX0_doubtsAt_43 3 rfl (ci_1 _) (by decide) rfl (tk_goto (tgt := 4) G dX0_doubtsAt_46 (by decide) k)) ?_
      refine s_sub [1, 2, 3, 0] (al' := [(0, .ref (e_ad E a0)), (1, .int a1), (2, .int y4_2), (3, .int (y4_3 + 1))]) rfl ?_
      exact hL4 _ _ _
    ·
      refine s_v (fun _ k => tk_aload_n G dX0_doubtsAt_21 0 rfl (tk_iload_n G dX0_doubtsAt_22 3 rfl k)) ?_
      refine s_callVI (As := [.int y4_3]) G dX0_doubtsAt_23 wY_X0_isTorn wM_X0_87 wI_X0_isTorn wS_X0_isTorn (tk_rm hR (by decide) (by decide)) kX0 k0 (by decide) (c_X0_isTorn E x15.2 a0 y4_3 k0) rfl rfl (Nat.le_of_ble_eq_true rfl) ⟨Nat.zero_le _, Nat.zero_le _⟩ (fun x23 => ?_)
      refine s_if_eq (tgt := 43) G dX0_doubtsAt_26 (by decide) (fun q26 => ?_) (fun q26 => ?_)
      ·
        refine s_v (fun _ k => tk_iinc (al' := [(3, .int (y4_3 + 1)), (0, .ref (e_ad E a0)), (1, .int a1), (2, .int y4_2)]) G dX0_doubtsAt_43 3 rfl (ci_1 _) (by decide) rfl (tk_goto (tgt := 4) G dX0_doubtsAt_46 (by decide) k)) ?_
        refine s_sub [1, 2, 3, 0] (al' := [(0, .ref (e_ad E a0)), (1, .int a1), (2, .int y4_2), (3, .int (y4_3 + 1))]) rfl ?_
        exact hL4 _ _ _
      ·
        refine s_v (fun _ k => tk_aload_n G dX0_doubtsAt_29 0 rfl (tk_gr G kX0 dX0_doubtsAt_30 wF_X0_24 k0 gR_0_5 (tk_iload_n G dX0_doubtsAt_33 3 rfl k))) ?_
        refine s_iald G dX0_doubtsAt_34 (kF_0_5 k0) (fun v34 => ?_)
        refine s_v (fun _ k => tk_bipush G dX0_doubtsAt_35 cB_10 k) ?_
        refine s_icmp_ge (tgt := 43) G dX0_doubtsAt_37 (by decide) (fun q37 => ?_) (fun q37 => ?_)
        ·
          refine s_v (fun _ k => tk_iinc (al' := [(3, .int (y4_3 + 1)), (0, .ref (e_ad E a0)), (1, .int a1), (2, .int y4_2)]) G dX0_doubtsAt_43 3 rfl (ci_1 _) (by decide) rfl (tk_goto (tgt := 4) G dX0_doubtsAt_46 (by decide) k)) ?_
          refine s_sub [1, 2, 3, 0] (al' := [(0, .ref (e_ad E a0)), (1, .int a1), (2, .int y4_2), (3, .int (y4_3 + 1))]) rfl ?_
          exact hL4 _ _ _
        ·
          refine s_v (fun _ k => tk_iinc (al' := [(2, .int (y4_2 + 1)), (0, .ref (e_ad E a0)), (1, .int a1), (3, .int y4_3)]) G dX0_doubtsAt_40 2 rfl (ci_1 _) (by decide) rfl (tk_iinc (al' := [(3, .int (y4_3 + 1)), (2, .int (y4_2 + 1)), (0, .ref (e_ad E a0)), (1, .int a1)]) G dX0_doubtsAt_43 3 rfl (ci_1 _) (by decide) rfl (tk_goto (tgt := 4) G dX0_doubtsAt_46 (by decide) k))) ?_
          refine s_sub [2, 3, 1, 0] (al' := [(0, .ref (e_ad E a0)), (1, .int a1), (2, .int (y4_2 + 1)), (3, .int (y4_3 + 1))]) rfl ?_
          exact hL4 _ _ _
theorem c_X0_doubtsAt (E : tkE) (h : tkH) (a0 : Nat) (a1 : Int32) (k0 : kd a0 = 3) : ∀ x, f_X0_doubtsAt h a0 a1 = some x → tkM E yX0_doubtsAt cX0_doubtsAt 4 (some .int) 2 tkF [.ref (e_ad E a0), .int a1] h (some (.int x.1)) x.2 := fun x hx => tkM_of (by decide) (Nat.le_of_ble_eq_true rfl) (fun _ hR G => w_X0_doubtsAt hR G h a0 a1 k0 x hx)
set_option maxRecDepth 100000 in
set_option maxHeartbeats 4000000 in
theorem w_X0_hasStep {E : tkE} {X : tkX} (hR : x_R X = tkR 2) (G : tkG E X cX0_hasStep 3 RX0 (some .boolean)) (h : tkH) (a0 : Nat) (a1 : Int32) (a2 : Int32) (k0 : kd a0 = 3) : tkS E X 3 0 0 (tkZi E X) 0 [(0, .ref (e_ad E a0)), (1, .int a1), (2, .int a2)] [] h (f_X0_hasStep h a0 a1 a2) := by
  unfold f_X0_hasStep
  refine s_v (fun _ k => tk_aload_n G dX0_hasStep_0 0 rfl (tk_iload_n G dX0_hasStep_1 1 rfl k)) ?_
  refine s_callVI (As := [.int a1]) G dX0_hasStep_2 wY_X0_hasTale wM_X0_50 wI_X0_hasTale wS_X0_hasTale (tk_rm hR (by decide) (by decide)) kX0 k0 (by decide) (c_X0_hasTale E h a0 a1 k0) rfl rfl (Nat.le_of_ble_eq_true rfl) ⟨Nat.zero_le _, Nat.zero_le _⟩ (fun x2 => ?_)
  refine s_if_eq (tgt := 25) G dX0_hasStep_5 (by decide) (fun q5 => ?_) (fun q5 => ?_)
  ·
    refine s_v (fun _ k => tk_iconst G dX0_hasStep_25 cI_0 k) ?_
    exact s_zret G dX0_hasStep_26 (by decide)
  ·
    refine s_v (fun _ k => tk_iload_n G dX0_hasStep_8 2 rfl (tk_aload_n G dX0_hasStep_9 0 rfl (tk_gr G kX0 dX0_hasStep_10 wF_X0_24 k0 gR_0_5 (tk_iload_n G dX0_hasStep_13 1 rfl k)))) ?_
    refine s_iald G dX0_hasStep_14 (kF_0_5 k0) (fun v14 => ?_)
    refine s_callSNI (As := [.int a2, .int v14]) G dX0_hasStep_15 wY_X8_isWithin wM_X0_46 wI_X8_isWithin (tk_rm hR (by decide) (by decide)) (c_X8_isWithin E x2.2 a2 v14) rfl rfl (Nat.le_of_ble_eq_true rfl) ⟨Nat.zero_le _, Nat.zero_le _⟩ (fun x15 => ?_)
    refine s_if_eq (tgt := 25) G dX0_hasStep_18 (by decide) (fun q18 => ?_) (fun q18 => ?_)
    ·
      refine s_v (fun _ k => tk_iconst G dX0_hasStep_25 cI_0 k) ?_
      exact s_zret G dX0_hasStep_26 (by decide)
    ·
      refine s_v (fun _ k => tk_iconst G dX0_hasStep_21 cI_1 (tk_goto (tgt := 26) G dX0_hasStep_22 (by decide) k)) ?_
      exact s_zret G dX0_hasStep_26 (by decide)
theorem c_X0_hasStep (E : tkE) (h : tkH) (a0 : Nat) (a1 : Int32) (a2 : Int32) (k0 : kd a0 = 3) : ∀ x, f_X0_hasStep h a0 a1 a2 = some x → tkM E yX0_hasStep cX0_hasStep 3 (some .boolean) 2 tkF [.ref (e_ad E a0), .int a1, .int a2] h (some (.int x.1)) x.2 := fun x hx => tkM_of (by decide) (Nat.le_of_ble_eq_true rfl) (fun _ hR G => w_X0_hasStep hR G h a0 a1 a2 k0 x hx)
set_option maxRecDepth 100000 in
set_option maxHeartbeats 4000000 in
theorem w_X0_howOftenAt {E : tkE} {X : tkX} (hR : x_R X = tkR 2) (G : tkG E X cX0_howOftenAt 5 RX0 (some .int)) (h : tkH) (a0 : Nat) (a1 : Int32) (a2 : Int32) (k0 : kd a0 = 3) : tkS E X 5 0 0 (tkZi E X) 0 [(0, .ref (e_ad E a0)), (1, .int a1), (2, .int a2)] [] h (f_X0_howOftenAt h a0 a1 a2) := by
  unfold f_X0_howOftenAt
  refine s_v (fun _ k => tk_iconst G dX0_howOftenAt_0 cI_0 (tk_istore_n (al' := [(3, .int 0), (0, .ref (e_ad E a0)), (1, .int a1), (2, .int a2)]) G dX0_howOftenAt_1 (by decide) rfl (tk_iconst G dX0_howOftenAt_2 cI_0 (tk_istore (al' := [(4, .int 0), (3, .int 0), (0, .ref (e_ad E a0)), (1, .int a1), (2, .int a2)]) G dX0_howOftenAt_3 (by decide) rfl k)))) ?_
  refine s_sub [2, 3, 4, 1, 0] (al' := [(0, .ref (e_ad E a0)), (1, .int a1), (2, .int a2), (3, .int 0), (4, .int 0)]) rfl ?_
  unfold f_X0_howOftenAt_L5
  refine s_lp2 (al := fun y5_3 y5_4 => [(0, .ref (e_ad E a0)), (1, .int a1), (2, .int a2), (3, .int y5_3), (4, .int y5_4)]) (fun kk5 hL5 g5 y5_3 y5_4 => ?_) _ _ _ _
  refine s_v (fun _ k => tk_iload G dX0_howOftenAt_5 4 rfl (tk_aload_n G dX0_howOftenAt_7 0 rfl (tk_gi G kX0 dX0_howOftenAt_8 wF_X0_36 k0 gI_0_0 k))) ?_
  refine s_icmp_ge (tgt := 40) G dX0_howOftenAt_11 (by decide) (fun q11 => ?_) (fun q11 => ?_)
  ·
    refine s_v (fun _ k => tk_iload_n G dX0_howOftenAt_40 3 rfl k) ?_
    exact s_iret G dX0_howOftenAt_41
  ·
    refine s_v (fun _ k => tk_aload_n G dX0_howOftenAt_14 0 rfl (tk_iload G dX0_howOftenAt_15 4 rfl (tk_iload_n G dX0_howOftenAt_17 2 rfl k))) ?_
    refine s_callVI (As := [.int y5_4, .int a2]) G dX0_howOftenAt_18 wY_X0_isAt wM_X0_81 wI_X0_isAt wS_X0_isAt (tk_rm hR (by decide) (by decide)) kX0 k0 (by decide) (c_X0_isAt E g5 a0 y5_4 a2 k0) rfl rfl (Nat.le_of_ble_eq_true rfl) ⟨Nat.zero_le _, Nat.zero_le _⟩ (fun x18 => ?_)
    refine s_if_eq (tgt := 34) G dX0_howOftenAt_21 (by decide) (fun q21 => ?_) (fun q21 => ?_)
    ·
      refine s_v (fun _ k => tk_iinc (al' := [(4, .int (y5_4 + 1)), (0, .ref (e_ad E a0)), (1, .int a1), (2, .int a2), (3, .int y5_3)]) G dX0_howOftenAt_34 4 rfl (ci_1 _) (by decide) rfl (tk_goto (tgt := 5) G dX0_howOftenAt_37 (by decide) k)) ?_
      refine s_sub [1, 2, 3, 4, 0] (al' := [(0, .ref (e_ad E a0)), (1, .int a1), (2, .int a2), (3, .int y5_3), (4, .int (y5_4 + 1))]) rfl ?_
      exact hL5 _ _ _
    ·
      refine s_v (fun _ k => tk_iload_n G dX0_howOftenAt_24 3 rfl (tk_aload_n G dX0_howOftenAt_25 0 rfl (tk_iload_n G dX0_howOftenAt_26 1 rfl (tk_iload G dX0_howOftenAt_27 4 rfl k)))) ?_
      refine s_callVI (As := [.int a1, .int y5_4]) G dX0_howOftenAt_29 wY_X0_howOften wM_X0_84 wI_X0_howOften wS_X0_howOften (tk_rm hR (by decide) (by decide)) kX0 k0 (by decide) (c_X0_howOften E x18.2 a0 a1 y5_4 k0) rfl rfl (Nat.le_of_ble_eq_true rfl) ⟨Nat.zero_le _, Nat.zero_le _⟩ (fun x29 => ?_)
      refine s_v (fun _ k => tk_iadd G dX0_howOftenAt_32 (tk_istore_n (al' := [(3, .int (y5_3 + x29.1)), (0, .ref (e_ad E a0)), (1, .int a1), (2, .int a2), (4, .int y5_4)]) G dX0_howOftenAt_33 (by decide) rfl (tk_iinc (al' := [(4, .int (y5_4 + 1)), (3, .int (y5_3 + x29.1)), (0, .ref (e_ad E a0)), (1, .int a1), (2, .int a2)]) G dX0_howOftenAt_34 4 rfl (ci_1 _) (by decide) rfl (tk_goto (tgt := 5) G dX0_howOftenAt_37 (by decide) k)))) ?_
      refine s_sub [2, 3, 4, 1, 0] (al' := [(0, .ref (e_ad E a0)), (1, .int a1), (2, .int a2), (3, .int (y5_3 + x29.1)), (4, .int (y5_4 + 1))]) rfl ?_
      exact hL5 _ _ _
theorem c_X0_howOftenAt (E : tkE) (h : tkH) (a0 : Nat) (a1 : Int32) (a2 : Int32) (k0 : kd a0 = 3) : ∀ x, f_X0_howOftenAt h a0 a1 a2 = some x → tkM E yX0_howOftenAt cX0_howOftenAt 5 (some .int) 2 tkF [.ref (e_ad E a0), .int a1, .int a2] h (some (.int x.1)) x.2 := fun x hx => tkM_of (by decide) (Nat.le_of_ble_eq_true rfl) (fun _ hR G => w_X0_howOftenAt hR G h a0 a1 a2 k0 x hx)
set_option maxRecDepth 100000 in
set_option maxHeartbeats 4000000 in
theorem w_X1_sameFrom {E : tkE} {X : tkX} (hR : x_R X = tkR 2) (G : tkG E X cX1_sameFrom 6 RX1 (some .int)) (h : tkH) (a0 : Nat) (a1 : Nat) (a2 : Int32) (a3 : Int32) (a4 : Int32) (k0 : kd a0 = 4) (k1 : kd a1 = 0) : tkS E X 6 0 0 (tkZi E X) 0 [(0, .ref (e_ad E a0)), (1, .ref (e_ad E a1)), (2, .int a2), (3, .int a3), (4, .int a4)] [] h (f_X1_sameFrom h a0 a1 a2 a3 a4) := by
  unfold f_X1_sameFrom
  refine s_v (fun _ k => tk_aload_n G dX1_sameFrom_0 0 rfl (tk_gr G kX1 dX1_sameFrom_1 wF_X1_9 k0 gR_1_0 (tk_iconst G dX1_sameFrom_4 cI_m1 k))) ?_
  refine s_callSV (As := [.ref (e_ad E (fld a0 0)), .int (-1)]) G dX1_sameFrom_5 wY_J7_fill_53178 wM_X1_46 wI_J7_fill_53178 (tk_rm hR (by decide) (by decide)) (c_J7_fill_53178 E h (fld a0 0) (-1) (kF_1_0 k0)) rfl rfl (Nat.le_of_ble_eq_true rfl) ⟨Nat.zero_le _, Nat.zero_le _⟩ (fun x5 => ?_)
  refine s_v (fun _ k => tk_aload_n G dX1_sameFrom_8 0 rfl (tk_gr G kX1 dX1_sameFrom_9 wF_X1_15 k0 gR_1_1 (tk_iconst G dX1_sameFrom_12 cI_m1 k))) ?_
  refine s_callSV (As := [.ref (e_ad E (fld a0 1)), .int (-1)]) G dX1_sameFrom_13 wY_J7_fill_53178 wM_X1_46 wI_J7_fill_53178 (tk_rm hR (by decide) (by decide)) (c_J7_fill_53178 E x5 (fld a0 1) (-1) (kF_1_1 k0)) rfl rfl (Nat.le_of_ble_eq_true rfl) ⟨Nat.zero_le _, Nat.zero_le _⟩ (fun x13 => ?_)
  refine s_v (fun _ k => tk_iconst G dX1_sameFrom_16 cI_0 (tk_istore (al' := [(5, .int 0), (0, .ref (e_ad E a0)), (1, .ref (e_ad E a1)), (2, .int a2), (3, .int a3), (4, .int a4)]) G dX1_sameFrom_17 (by decide) rfl k)) ?_
  refine s_sub [1, 2, 3, 4, 5, 0] (al' := [(0, .ref (e_ad E a0)), (1, .ref (e_ad E a1)), (2, .int a2), (3, .int a3), (4, .int a4), (5, .int 0)]) rfl ?_
  unfold f_X1_sameFrom_L19
  refine s_lp1 (al := fun y19_5 => [(0, .ref (e_ad E a0)), (1, .ref (e_ad E a1)), (2, .int a2), (3, .int a3), (4, .int a4), (5, .int y19_5)]) (fun kk19 hL19 g19 y19_5 => ?_) _ _ _
  refine s_v (fun _ k => tk_iload G dX1_sameFrom_19 5 rfl (tk_iload G dX1_sameFrom_21 4 rfl k)) ?_
  refine s_icmp_ge (tgt := 51) G dX1_sameFrom_23 (by decide) (fun q23 => ?_) (fun q23 => ?_)
  ·
    refine s_v (fun _ k => tk_iload G dX1_sameFrom_51 5 rfl k) ?_
    exact s_iret G dX1_sameFrom_53
  ·
    refine s_v (fun _ k => tk_aload_n G dX1_sameFrom_26 0 rfl (tk_aload_n G dX1_sameFrom_27 1 rfl (tk_iload_n G dX1_sameFrom_28 2 rfl (tk_iload G dX1_sameFrom_29 5 rfl (tk_iadd G dX1_sameFrom_31 k))))) ?_
    refine s_iald G dX1_sameFrom_32 k1 (fun v32 => ?_)
    refine s_v (fun _ k => tk_aload_n G dX1_sameFrom_33 1 rfl (tk_iload_n G dX1_sameFrom_34 3 rfl (tk_iload G dX1_sameFrom_35 5 rfl (tk_iadd G dX1_sameFrom_37 k)))) ?_
    refine s_iald G dX1_sameFrom_38 k1 (fun v38 => ?_)
    refine s_callVI (As := [.int v32, .int v38]) G dX1_sameFrom_39 wY_X1_isSame wM_X1_52 wI_X1_isSame wS_X1_isSame (tk_rm hR (by decide) (by decide)) kX1 k0 (by decide) (c_X1_isSame E g19 a0 v32 v38 k0) rfl rfl (Nat.le_of_ble_eq_true rfl) ⟨Nat.zero_le _, Nat.zero_le _⟩ (fun x39 => ?_)
    refine s_if_eq (tgt := 51) G dX1_sameFrom_42 (by decide) (fun q42 => ?_) (fun q42 => ?_)
    ·
      refine s_v (fun _ k => tk_iload G dX1_sameFrom_51 5 rfl k) ?_
      exact s_iret G dX1_sameFrom_53
    ·
      refine s_v (fun _ k => tk_iinc (al' := [(5, .int (y19_5 + 1)), (0, .ref (e_ad E a0)), (1, .ref (e_ad E a1)), (2, .int a2), (3, .int a3), (4, .int a4)]) G dX1_sameFrom_45 5 rfl (ci_1 _) (by decide) rfl (tk_goto (tgt := 19) G dX1_sameFrom_48 (by decide) k)) ?_
      refine s_sub [1, 2, 3, 4, 5, 0] (al' := [(0, .ref (e_ad E a0)), (1, .ref (e_ad E a1)), (2, .int a2), (3, .int a3), (4, .int a4), (5, .int (y19_5 + 1))]) rfl ?_
      exact hL19 _ _
theorem c_X1_sameFrom (E : tkE) (h : tkH) (a0 : Nat) (a1 : Nat) (a2 : Int32) (a3 : Int32) (a4 : Int32) (k0 : kd a0 = 4) (k1 : kd a1 = 0) : ∀ x, f_X1_sameFrom h a0 a1 a2 a3 a4 = some x → tkM E yX1_sameFrom cX1_sameFrom 6 (some .int) 2 tkF [.ref (e_ad E a0), .ref (e_ad E a1), .int a2, .int a3, .int a4] h (some (.int x.1)) x.2 := fun x hx => tkM_of (by decide) (Nat.le_of_ble_eq_true rfl) (fun _ hR G => w_X1_sameFrom hR G h a0 a1 a2 a3 a4 k0 k1 x hx)
set_option maxRecDepth 100000 in
set_option maxHeartbeats 4000000 in
theorem w_X3_giveBack {E : tkE} {X : tkX} (hR : x_R X = tkR 2) (G : tkG E X cX3_giveBack 2 RX3 none) (h : tkH) (a0 : Nat) (a1 : Nat) (k0 : kd a0 = 6) (k1 : kd a1 = 3) : tkS E X 2 0 0 (tkZv E X) 0 [(0, .ref (e_ad E a0)), (1, .ref (e_ad E a1))] [] h (f_X3_giveBack h a0 a1) := by
  unfold f_X3_giveBack
  refine s_v (fun _ k => tk_aload_n G dX3_giveBack_0 0 rfl (tk_aload_n G dX3_giveBack_1 0 rfl (tk_gi G kX3 dX3_giveBack_2 wF_X3_18 k0 gI_3_1 k))) ?_
  have hJ19 : ∀ (g19 : tkH) (t19_0 : Int32), tkS E X 2 0 0 (tkZv E X) 19 [(0, .ref (e_ad E a0)), (1, .ref (e_ad E a1))] [.int t19_0, .ref (e_ad E a0)] g19 (f_X3_giveBack_J19 a0 a1 g19 t19_0) := by
    intro g19 t19_0
    unfold f_X3_giveBack_J19
    refine s_v (fun _ k => tk_pi G kX3 dX3_giveBack_19 wF_X3_18 k0 gP_3_1 (tk_aload_n G dX3_giveBack_22 1 rfl (tk_aload_n G dX3_giveBack_23 0 rfl (tk_gr G kX3 dX3_giveBack_24 wF_X3_11 k0 gR_3_0 (tk_aload_n G dX3_giveBack_27 0 rfl (tk_gi G kX3 dX3_giveBack_28 wF_X3_18 k0 gI_3_1 k)))))) ?_
    refine s_aaldB G dX3_giveBack_31 (kF_3_0 k0) (fun b31 kb31 => ?_)
    refine s_callVV (As := [.ref (e_ad E b31)]) G dX3_giveBack_32 wY_X0_takeFrom wM_X3_22 wI_X0_takeFrom wS_X0_takeFrom (tk_rm hR (by decide) (by decide)) kX0 k1 (by decide) (c_X0_takeFrom E (tkup g19 a0 1 t19_0) a1 b31 k1 kb31) rfl rfl (Nat.le_of_ble_eq_true rfl) ⟨Nat.zero_le _, Nat.zero_le _⟩ (fun x32 => ?_)
    refine s_v (fun _ k => tk_aload_n G dX3_giveBack_35 0 rfl (tk_dup G dX3_giveBack_36 rfl (tk_gi G kX3 dX3_giveBack_37 wF_X3_26 k0 gI_3_2 (tk_iconst G dX3_giveBack_40 cI_1 (tk_isub G dX3_giveBack_41 (tk_pi G kX3 dX3_giveBack_42 wF_X3_26 k0 gP_3_2 k)))))) ?_
    exact s_vret G dX3_giveBack_45
  refine s_if_le (tgt := 17) G dX3_giveBack_5 (by decide) (fun q5 => ?_) (fun q5 => ?_)
  ·
    refine s_v (fun _ k => tk_bipush G dX3_giveBack_17 cB_19 k) ?_
    exact hJ19 _ _
  ·
    refine s_v (fun _ k => tk_aload_n G dX3_giveBack_8 0 rfl (tk_gi G kX3 dX3_giveBack_9 wF_X3_18 k0 gI_3_1 (tk_iconst G dX3_giveBack_12 cI_1 (tk_isub G dX3_giveBack_13 (tk_goto (tgt := 19) G dX3_giveBack_14 (by decide) k))))) ?_
    exact hJ19 _ _
theorem c_X3_giveBack (E : tkE) (h : tkH) (a0 : Nat) (a1 : Nat) (k0 : kd a0 = 6) (k1 : kd a1 = 3) : ∀ x, f_X3_giveBack h a0 a1 = some x → tkM E yX3_giveBack cX3_giveBack 2 none 2 tkF [.ref (e_ad E a0), .ref (e_ad E a1)] h none x := fun x hx => tkM_of (by decide) (Nat.le_of_ble_eq_true rfl) (fun _ hR G => w_X3_giveBack hR G h a0 a1 k0 k1 x hx)
set_option maxRecDepth 100000 in
set_option maxHeartbeats 4000000 in
theorem w_X3_keep {E : tkE} {X : tkX} (hR : x_R X = tkR 2) (G : tkG E X cX3_keep 2 RX3 none) (h : tkH) (a0 : Nat) (a1 : Nat) (k0 : kd a0 = 6) (k1 : kd a1 = 3) : tkS E X 2 0 0 (tkZv E X) 0 [(0, .ref (e_ad E a0)), (1, .ref (e_ad E a1))] [] h (f_X3_keep h a0 a1) := by
  unfold f_X3_keep
  refine s_v (fun _ k => tk_aload_n G dX3_keep_0 0 rfl (tk_gr G kX3 dX3_keep_1 wF_X3_11 k0 gR_3_0 (tk_aload_n G dX3_keep_4 0 rfl (tk_gi G kX3 dX3_keep_5 wF_X3_18 k0 gI_3_1 k)))) ?_
  refine s_aaldB G dX3_keep_8 (kF_3_0 k0) (fun b8 kb8 => ?_)
  refine s_v (fun _ k => tk_aload_n G dX3_keep_9 1 rfl k) ?_
  refine s_callVV (As := [.ref (e_ad E a1)]) G dX3_keep_10 wY_X0_takeFrom wM_X3_22 wI_X0_takeFrom wS_X0_takeFrom (tk_rm hR (by decide) (by decide)) kX0 kb8 (by decide) (c_X0_takeFrom E h b8 a1 kb8 k1) rfl rfl (Nat.le_of_ble_eq_true rfl) ⟨Nat.zero_le _, Nat.zero_le _⟩ (fun x10 => ?_)
  refine s_v (fun _ k => tk_aload_n G dX3_keep_13 0 rfl (tk_aload_n G dX3_keep_14 0 rfl (tk_gi G kX3 dX3_keep_15 wF_X3_18 k0 gI_3_1 (tk_iconst G dX3_keep_18 cI_1 (tk_iadd G dX3_keep_19 (tk_bipush G dX3_keep_20 cB_20 k)))))) ?_
  have hJ35 : ∀ (g35 : tkH) (t35_0 : Int32), tkS E X 2 0 0 (tkZv E X) 35 [(0, .ref (e_ad E a0))] [.int t35_0, .ref (e_ad E a0)] g35 (f_X3_keep_J35 a0 g35 t35_0) := by
    intro g35 t35_0
    unfold f_X3_keep_J35
    refine s_v (fun _ k => tk_pi G kX3 dX3_keep_35 wF_X3_18 k0 gP_3_1 (tk_aload_n G dX3_keep_38 0 rfl (tk_aload_n G dX3_keep_39 0 rfl (tk_gi G kX3 dX3_keep_40 wF_X3_26 k0 gI_3_2 (tk_iconst G dX3_keep_43 cI_1 (tk_iadd G dX3_keep_44 (tk_bipush G dX3_keep_45 cB_20 (tk_mmin G dX3_keep_47 wM_X3_29 (tk_rmm hR (by decide) (Nat.le_of_ble_eq_true rfl)) ⟨Nat.zero_le _, Nat.zero_le _⟩ (tk_pi G kX3 dX3_keep_50 wF_X3_26 k0 gP_3_2 k))))))))) ?_
    exact s_vret G dX3_keep_53
  refine s_icmp_ge (tgt := 34) G dX3_keep_22 (by decide) (fun q22 => ?_) (fun q22 => ?_)
  ·
    refine s_v (fun _ k => tk_iconst G dX3_keep_34 cI_0 k) ?_
    refine s_sub [0] (al' := [(0, .ref (e_ad E a0))]) rfl ?_
    exact hJ35 _ _
  ·
    refine s_v (fun _ k => tk_aload_n G dX3_keep_25 0 rfl (tk_gi G kX3 dX3_keep_26 wF_X3_18 k0 gI_3_1 (tk_iconst G dX3_keep_29 cI_1 (tk_iadd G dX3_keep_30 (tk_goto (tgt := 35) G dX3_keep_31 (by decide) k))))) ?_
    refine s_sub [0] (al' := [(0, .ref (e_ad E a0))]) rfl ?_
    exact hJ35 _ _
theorem c_X3_keep (E : tkE) (h : tkH) (a0 : Nat) (a1 : Nat) (k0 : kd a0 = 6) (k1 : kd a1 = 3) : ∀ x, f_X3_keep h a0 a1 = some x → tkM E yX3_keep cX3_keep 2 none 2 tkF [.ref (e_ad E a0), .ref (e_ad E a1)] h none x := fun x hx => tkM_of (by decide) (Nat.le_of_ble_eq_true rfl) (fun _ hR G => w_X3_keep hR G h a0 a1 k0 k1 x hx)
set_option maxRecDepth 100000 in
set_option maxHeartbeats 4000000 in
theorem w_X4_findLeast {E : tkE} {X : tkX} (hR : x_R X = tkR 2) (G : tkG E X cX4_findLeast 4 RX4 none) (h : tkH) (a0 : Nat) (a1 : Nat) (k0 : kd a0 = 7) (k1 : kd a1 = 0) : tkS E X 4 0 0 (tkZv E X) 0 [(0, .ref (e_ad E a0)), (1, .ref (e_ad E a1))] [] h (f_X4_findLeast h a0 a1) := by
  unfold f_X4_findLeast
  refine s_v (fun _ k => tk_aload_n G dX4_findLeast_0 0 rfl (tk_aload_n G dX4_findLeast_1 1 rfl (tk_iconst G dX4_findLeast_2 cI_0 k))) ?_
  refine s_iald G dX4_findLeast_3 k1 (fun v3 => ?_)
  refine s_v (fun _ k => tk_pi G kX4 dX4_findLeast_4 wF_X4_31 k0 gP_4_5 (tk_aload_n G dX4_findLeast_7 0 rfl (tk_aload_n G dX4_findLeast_8 1 rfl (tk_iconst G dX4_findLeast_9 cI_1 k)))) ?_
  refine s_iald G dX4_findLeast_10 k1 (fun v10 => ?_)
  refine s_v (fun _ k => tk_pi G kX4 dX4_findLeast_11 wF_X4_35 k0 gP_4_6 (tk_aload_n G dX4_findLeast_14 0 rfl (tk_aload_n G dX4_findLeast_15 1 rfl (tk_iconst G dX4_findLeast_16 cI_2 k)))) ?_
  refine s_iald G dX4_findLeast_17 k1 (fun v17 => ?_)
  refine s_v (fun _ k => tk_pi G kX4 dX4_findLeast_18 wF_X4_38 k0 gP_4_7 (tk_aload_n G dX4_findLeast_21 0 rfl (tk_ldc G dX4_findLeast_22 wK_X4_41 (tk_pi G kX4 dX4_findLeast_24 wF_X4_42 k0 gP_4_8 (tk_iconst G dX4_findLeast_27 cI_0 (tk_istore_n (al' := [(2, .int 0), (0, .ref (e_ad E a0)), (1, .ref (e_ad E a1))]) G dX4_findLeast_28 (by decide) rfl k)))))) ?_
  refine s_sub [1, 0] (al' := [(0, .ref (e_ad E a0)), (2, .int 0)]) rfl ?_
  unfold f_X4_findLeast_L29
  refine s_lp1 (al := fun y29_2 => [(0, .ref (e_ad E a0)), (2, .int y29_2)]) (fun kk29 hL29 g29 y29_2 => ?_) _ _ _
  refine s_v (fun _ k => tk_iload_n G dX4_findLeast_29 1 rfl (tk_getsN G dX4_findLeast_30 wN_X4_45 (tk_clen G dX4_findLeast_33 k))) ?_
  refine s_icmp_ge (tgt := 90) G dX4_findLeast_34 (by decide) (fun q34 => ?_) (fun q34 => ?_)
  ·
    exact s_vret G dX4_findLeast_90
  ·
    refine s_v (fun _ k => tk_aload_n G dX4_findLeast_37 0 rfl (tk_gi G kX4 dX4_findLeast_38 wF_X4_42 k0 gI_4_8 k)) ?_
    refine s_if_le (tgt := 90) G dX4_findLeast_41 (by decide) (fun q41 => ?_) (fun q41 => ?_)
    ·
      exact s_vret G dX4_findLeast_90
    ·
      refine s_v (fun _ k => tk_aload_n G dX4_findLeast_44 0 rfl (tk_getsN G dX4_findLeast_45 wN_X4_45 (tk_iload_n G dX4_findLeast_48 1 rfl k))) ?_
      refine s_cald G dX4_findLeast_49 (fun v49 => ?_)
      refine s_callVV (As := [.int v49]) G dX4_findLeast_50 wY_X4_carrySteps wM_X4_48 wI_X4_carrySteps wS_X4_carrySteps (tk_rm hR (by decide) (by decide)) kX4 k0 (by decide) (c_X4_carrySteps E g29 a0 v49 k0) rfl rfl (Nat.le_of_ble_eq_true rfl) ⟨Nat.zero_le _, Nat.zero_le _⟩ (fun x50 => ?_)
      refine s_v (fun _ k => tk_aload_n G dX4_findLeast_53 0 rfl (tk_aload_n G dX4_findLeast_54 0 rfl (tk_gi G kX4 dX4_findLeast_55 wF_X4_42 k0 gI_4_8 k))) ?_
      refine s_callVI (As := [.int (x50 a0 8)]) G dX4_findLeast_58 wY_X4_fillRests wM_X4_52 wI_X4_fillRests wS_X4_fillRests (tk_rm hR (by decide) (by decide)) kX4 k0 (by decide) (c_X4_fillRests E x50 a0 (x50 a0 8) k0) rfl rfl (Nat.le_of_ble_eq_true rfl) ⟨Nat.zero_le _, Nat.zero_le _⟩ (fun x58 => ?_)
      refine s_v (fun _ k => tk_istore_n (al' := [(3, .int x58.1), (0, .ref (e_ad E a0)), (2, .int y29_2)]) G dX4_findLeast_61 (by decide) rfl (tk_iload_n G dX4_findLeast_62 0 rfl (tk_aload_n G dX4_findLeast_63 1 rfl (tk_gi G kX4 dX4_findLeast_64 wF_X4_42 k0 gI_4_8 k)))) ?_
      refine s_icmp_ge (tgt := 84) G dX4_findLeast_67 (by decide) (fun q67 => ?_) (fun q67 => ?_)
      ·
        refine s_v (fun _ k => tk_iinc (al' := [(2, .int (y29_2 + 1)), (3, .int x58.1), (0, .ref (e_ad E a0))]) G dX4_findLeast_84 2 rfl (ci_1 _) (by decide) rfl (tk_goto (tgt := 29) G dX4_findLeast_87 (by decide) k)) ?_
        refine s_sub [2, 0] (al' := [(0, .ref (e_ad E a0)), (2, .int (y29_2 + 1))]) rfl ?_
        exact hL29 _ _
      ·
        refine s_v (fun _ k => tk_aload_n G dX4_findLeast_70 1 rfl (tk_iload_n G dX4_findLeast_71 0 rfl (tk_pi G kX4 dX4_findLeast_72 wF_X4_42 k0 gP_4_8 (tk_aload_n G dX4_findLeast_75 1 rfl (tk_getsN G dX4_findLeast_76 wN_X4_45 (tk_iload_n G dX4_findLeast_79 2 rfl k)))))) ?_
        refine s_cald G dX4_findLeast_80 (fun v80 => ?_)
        refine s_v (fun _ k => tk_pi G kX4 dX4_findLeast_81 wF_X4_56 k0 gP_4_9 (tk_iinc (al' := [(2, .int (y29_2 + 1)), (3, .int x58.1), (0, .ref (e_ad E a0))]) G dX4_findLeast_84 2 rfl (ci_1 _) (by decide) rfl (tk_goto (tgt := 29) G dX4_findLeast_87 (by decide) k))) ?_
        refine s_sub [2, 0] (al' := [(0, .ref (e_ad E a0)), (2, .int (y29_2 + 1))]) rfl ?_
        exact hL29 _ _
theorem c_X4_findLeast (E : tkE) (h : tkH) (a0 : Nat) (a1 : Nat) (k0 : kd a0 = 7) (k1 : kd a1 = 0) : ∀ x, f_X4_findLeast h a0 a1 = some x → tkM E yX4_findLeast cX4_findLeast 4 none 2 tkF [.ref (e_ad E a0), .ref (e_ad E a1)] h none x := fun x hx => tkM_of (by decide) (Nat.le_of_ble_eq_true rfl) (fun _ hR G => w_X4_findLeast hR G h a0 a1 k0 k1 x hx)
set_option maxRecDepth 100000 in
set_option maxHeartbeats 4000000 in
theorem w_X4_findPairs {E : tkE} {X : tkX} (hR : x_R X = tkR 2) (G : tkG E X cX4_findPairs 9 RX4 none) (h : tkH) (a0 : Nat) (k0 : kd a0 = 7) : tkS E X 9 0 0 (tkZv E X) 0 [(0, .ref (e_ad E a0))] [] h (f_X4_findPairs h a0) := by
  unfold f_X4_findPairs
  refine s_v (fun _ k => tk_aload_n G dX4_findPairs_0 0 rfl (tk_aload_n G dX4_findPairs_1 0 rfl (tk_gi G kX4 dX4_findPairs_2 wF_X4_56 k0 gI_4_9 k))) ?_
  refine s_callVV (As := [.int (h a0 9)]) G dX4_findPairs_5 wY_X4_carrySteps wM_X4_48 wI_X4_carrySteps wS_X4_carrySteps (tk_rm hR (by decide) (by decide)) kX4 k0 (by decide) (c_X4_carrySteps E h a0 (h a0 9) k0) rfl rfl (Nat.le_of_ble_eq_true rfl) ⟨Nat.zero_le _, Nat.zero_le _⟩ (fun x5 => ?_)
  refine s_v (fun _ k => tk_aload_n G dX4_findPairs_8 0 rfl (tk_ldc G dX4_findPairs_9 wK_X4_41 k)) ?_
  refine s_callVI (As := [.int 1000000]) G dX4_findPairs_11 wY_X4_fillRests wM_X4_52 wI_X4_fillRests wS_X4_fillRests (tk_rm hR (by decide) (by decide)) kX4 k0 (by decide) (c_X4_fillRests E x5 a0 1000000 k0) rfl rfl (Nat.le_of_ble_eq_true rfl) ⟨Nat.zero_le _, Nat.zero_le _⟩ (fun x11 => ?_)
  refine s_v (fun _ k => tk_pop G dX4_findPairs_14 rfl (tk_aload_n G dX4_findPairs_15 0 rfl (tk_gr G kX4 dX4_findPairs_16 wF_X4_28 k0 gR_4_4 (tk_iconst G dX4_findPairs_19 cI_m1 k)))) ?_
  refine s_callSV (As := [.ref (e_ad E (fld a0 4)), .int (-1)]) G dX4_findPairs_20 wY_J7_fill_53178 wM_X4_97 wI_J7_fill_53178 (tk_rm hR (by decide) (by decide)) (c_J7_fill_53178 E x11.2 (fld a0 4) (-1) (kF_4_4 k0)) rfl rfl (Nat.le_of_ble_eq_true rfl) ⟨Nat.zero_le _, Nat.zero_le _⟩ (fun x20 => ?_)
  refine s_v (fun _ k => tk_iconst G dX4_findPairs_23 cI_0 (tk_istore_n (al' := [(1, .int 0), (0, .ref (e_ad E a0))]) G dX4_findPairs_24 (by decide) rfl (tk_iconst G dX4_findPairs_25 cI_0 (tk_istore_n (al' := [(2, .int 0), (1, .int 0), (0, .ref (e_ad E a0))]) G dX4_findPairs_26 (by decide) rfl (tk_iconst G dX4_findPairs_27 cI_0 (tk_istore_n (al' := [(3, .int 0), (2, .int 0), (1, .int 0), (0, .ref (e_ad E a0))]) G dX4_findPairs_28 (by decide) rfl (tk_iconst G dX4_findPairs_29 cI_0 (tk_istore (al' := [(4, .int 0), (3, .int 0), (2, .int 0), (1, .int 0), (0, .ref (e_ad E a0))]) G dX4_findPairs_30 (by decide) rfl (tk_aload_n G dX4_findPairs_32 4 rfl (tk_iconst G dX4_findPairs_33 cI_0 (tk_iconst G dX4_findPairs_34 cI_0 k))))))))))) ?_
  refine s_callVI (As := [.int 0, .int 0]) G dX4_findPairs_35 wY_X4_endPrice wM_X4_82 wI_X4_endPrice wS_X4_endPrice (tk_rm hR (by decide) (by decide)) kX4 k0 (by decide) (c_X4_endPrice E x20 a0 0 0 k0) rfl rfl (Nat.le_of_ble_eq_true rfl) ⟨Nat.zero_le _, Nat.zero_le _⟩ (fun x35 => ?_)
  refine s_v (fun _ k => tk_aload_n G dX4_findPairs_38 4 rfl (tk_gi G kX4 dX4_findPairs_39 wF_X4_42 k0 gI_4_8 k)) ?_
  have hJ50 : ∀ (g50 : tkH) (t50_0 : Int32), tkS E X 9 0 0 (tkZv E X) 50 [(0, .ref (e_ad E a0)), (1, .int 0), (2, .int 0), (3, .int 0), (4, .int 0)] [.int t50_0] g50 (f_X4_findPairs_J50 a0 g50 t50_0) := by
    intro g50 t50_0
    unfold f_X4_findPairs_J50
    refine s_v (fun _ k => tk_istore (al' := [(5, .int t50_0), (0, .ref (e_ad E a0)), (1, .int 0), (2, .int 0), (3, .int 0), (4, .int 0)]) G dX4_findPairs_50 (by decide) rfl (tk_iconst G dX4_findPairs_52 cI_0 (tk_istore (al' := [(6, .int 0), (5, .int t50_0), (0, .ref (e_ad E a0)), (1, .int 0), (2, .int 0), (3, .int 0), (4, .int 0)]) G dX4_findPairs_53 (by decide) rfl k))) ?_
    refine s_sub [2, 3, 4, 5, 6, 1, 0] (al' := [(0, .ref (e_ad E a0)), (1, .int 0), (2, .int 0), (3, .int 0), (4, .int 0), (5, .int t50_0), (6, .int 0)]) rfl ?_
    unfold f_X4_findPairs_L55
    refine s_lp6 (al := fun y55_1 y55_2 y55_3 y55_4 y55_5 y55_6 => [(0, .ref (e_ad E a0)), (1, .int y55_1), (2, .int y55_2), (3, .int y55_3), (4, .int y55_4), (5, .int y55_5), (6, .int y55_6)]) (fun kk55 hL55 g55 y55_1 y55_2 y55_3 y55_4 y55_5 y55_6 => ?_) _ _ _ _ _ _ _ _
    refine s_v (fun _ k => tk_iload G dX4_findPairs_55 6 rfl (tk_bipush G dX4_findPairs_57 cB_20 k)) ?_
    refine s_icmp_ge (tgt := 227) G dX4_findPairs_59 (by decide) (fun q59 => ?_) (fun q59 => ?_)
    ·
      exact s_vret G dX4_findPairs_227
    ·
      refine s_v (fun _ k => tk_iload_n G dX4_findPairs_62 1 rfl (tk_aload_n G dX4_findPairs_63 0 rfl (tk_gr G kX4 dX4_findPairs_64 wF_X4_12 k0 gR_4_0 (tk_gi G kX5 dX4_findPairs_67 wF_X4_59 (kF_4_0 k0) gI_5_1 k)))) ?_
      refine s_icmp_ge (tgt := 227) G dX4_findPairs_70 (by decide) (fun q70 => ?_) (fun q70 => ?_)
      ·
        exact s_vret G dX4_findPairs_227
      ·
        refine s_v (fun _ k => tk_iload_n G dX4_findPairs_73 2 rfl (tk_aload_n G dX4_findPairs_74 0 rfl (tk_gr G kX4 dX4_findPairs_75 wF_X4_18 k0 gR_4_1 (tk_gi G kX5 dX4_findPairs_78 wF_X4_59 (kF_4_1 k0) gI_5_1 k)))) ?_
        refine s_icmp_ge (tgt := 227) G dX4_findPairs_81 (by decide) (fun q81 => ?_) (fun q81 => ?_)
        ·
          exact s_vret G dX4_findPairs_227
        ·
          refine s_v (fun _ k => tk_iload_n G dX4_findPairs_84 3 rfl (tk_iload G dX4_findPairs_85 4 rfl (tk_aload_n G dX4_findPairs_87 0 rfl (tk_gi G kX4 dX4_findPairs_88 wF_X4_38 k0 gI_4_7 (tk_imul G dX4_findPairs_91 (tk_iadd G dX4_findPairs_92 (tk_istore (al' := [(7, .int (y55_3 + (y55_4 * (g55 a0 7)))), (0, .ref (e_ad E a0)), (1, .int y55_1), (2, .int y55_2), (3, .int y55_3), (4, .int y55_4), (5, .int y55_5), (6, .int y55_6)]) G dX4_findPairs_93 (by decide) rfl (tk_iload_n G dX4_findPairs_95 2 rfl (tk_iconst G dX4_findPairs_96 cI_1 (tk_iadd G dX4_findPairs_97 (tk_bipush G dX4_findPairs_98 cB_11 (tk_imul G dX4_findPairs_100 (tk_iload_n G dX4_findPairs_101 3 rfl (tk_iadd G dX4_findPairs_102 (tk_istore (al' := [(8, .int (((y55_1 + 1) * 11) + y55_2)), (7, .int (y55_3 + (y55_4 * (g55 a0 7)))), (0, .ref (e_ad E a0)), (1, .int y55_1), (2, .int y55_2), (3, .int y55_3), (4, .int y55_4), (5, .int y55_5), (6, .int y55_6)]) G dX4_findPairs_103 (by decide) rfl (tk_iload G dX4_findPairs_105 1 rfl (tk_aload_n G dX4_findPairs_107 2 rfl (tk_iload_n G dX4_findPairs_108 3 rfl (tk_iload_n G dX4_findPairs_109 4 rfl k))))))))))))))))))) ?_
          refine s_callVI (As := [.int y55_1, .int y55_2]) G dX4_findPairs_110 wY_X4_pairPrice wM_X4_85 wI_X4_pairPrice wS_X4_pairPrice (tk_rm hR (by decide) (by decide)) kX4 k0 (by decide) (c_X4_pairPrice E g55 a0 y55_1 y55_2 k0) rfl rfl (Nat.le_of_ble_eq_true rfl) ⟨Nat.zero_le _, Nat.zero_le _⟩ (fun x110 => ?_)
          refine s_v (fun _ k => tk_iadd G dX4_findPairs_113 (tk_aload_n G dX4_findPairs_114 2 rfl (tk_gr G kX4 dX4_findPairs_115 wF_X4_25 k0 gR_4_3 (tk_iload G dX4_findPairs_118 0 rfl (tk_iconst G dX4_findPairs_120 cI_1 (tk_iadd G dX4_findPairs_121 k)))))) ?_
          refine s_iald G dX4_findPairs_122 (kF_4_3 k0) (fun v122 => ?_)
          refine s_v (fun _ k => tk_iadd G dX4_findPairs_123 (tk_aload_n G dX4_findPairs_124 2 rfl (tk_gi G kX4 dX4_findPairs_125 wF_X4_42 k0 gI_4_8 k))) ?_
          refine s_icmp_ne (tgt := 182) G dX4_findPairs_128 (by decide) (fun q128 => ?_) (fun q128 => ?_)
          ·
            refine s_v (fun _ k => tk_iload G dX4_findPairs_131 1 rfl (tk_aload_n G dX4_findPairs_133 2 rfl (tk_iload_n G dX4_findPairs_134 3 rfl (tk_iload_n G dX4_findPairs_135 4 rfl k)))) ?_
            refine s_callVI (As := [.int y55_1, .int y55_2]) G dX4_findPairs_136 wY_X4_pairPrice wM_X4_85 wI_X4_pairPrice wS_X4_pairPrice (tk_rm hR (by decide) (by decide)) kX4 k0 (by decide) (c_X4_pairPrice E x110.2 a0 y55_1 y55_2 k0) rfl rfl (Nat.le_of_ble_eq_true rfl) ⟨Nat.zero_le _, Nat.zero_le _⟩ (fun x136 => ?_)
            refine s_v (fun _ k => tk_iadd G dX4_findPairs_139 (tk_istore_n (al' := [(3, .int ((y55_3 + (y55_4 * (g55 a0 7))) + x136.1)), (8, .int (((y55_1 + 1) * 11) + y55_2)), (7, .int (y55_3 + (y55_4 * (g55 a0 7)))), (0, .ref (e_ad E a0)), (1, .int y55_1), (2, .int y55_2), (4, .int y55_4), (5, .int y55_5), (6, .int y55_6)]) G dX4_findPairs_140 (by decide) rfl (tk_aload_n G dX4_findPairs_141 3 rfl (tk_gr G kX4 dX4_findPairs_142 wF_X4_28 k0 gR_4_4 (tk_iload_n G dX4_findPairs_145 4 rfl (tk_iload_n G dX4_findPairs_146 5 rfl k)))))) ?_
            refine s_iast G dX4_findPairs_147 (kF_4_4 k0) (fun h147 => ?_)
            refine s_v (fun _ k => tk_iinc (al' := [(1, .int (y55_1 + 1)), (3, .int ((y55_3 + (y55_4 * (g55 a0 7))) + x136.1)), (8, .int (((y55_1 + 1) * 11) + y55_2)), (7, .int (y55_3 + (y55_4 * (g55 a0 7)))), (0, .ref (e_ad E a0)), (2, .int y55_2), (4, .int y55_4), (5, .int y55_5), (6, .int y55_6)]) G dX4_findPairs_148 4 rfl (ci_1 _) (by decide) rfl (tk_iinc (al' := [(2, .int (y55_2 + 1)), (1, .int (y55_1 + 1)), (3, .int ((y55_3 + (y55_4 * (g55 a0 7))) + x136.1)), (8, .int (((y55_1 + 1) * 11) + y55_2)), (7, .int (y55_3 + (y55_4 * (g55 a0 7)))), (0, .ref (e_ad E a0)), (4, .int y55_4), (5, .int y55_5), (6, .int y55_6)]) G dX4_findPairs_151 5 rfl (ci_1 _) (by decide) rfl (tk_iconst G dX4_findPairs_154 cI_0 (tk_istore (al' := [(4, .int 0), (2, .int (y55_2 + 1)), (1, .int (y55_1 + 1)), (3, .int ((y55_3 + (y55_4 * (g55 a0 7))) + x136.1)), (8, .int (((y55_1 + 1) * 11) + y55_2)), (7, .int (y55_3 + (y55_4 * (g55 a0 7)))), (0, .ref (e_ad E a0)), (5, .int y55_5), (6, .int y55_6)]) G dX4_findPairs_155 (by decide) rfl (tk_iload_n G dX4_findPairs_157 3 rfl (tk_aload_n G dX4_findPairs_158 6 rfl (tk_iload_n G dX4_findPairs_159 2 rfl (tk_iload_n G dX4_findPairs_160 1 rfl k)))))))) ?_
            refine s_callVI (As := [.int (y55_1 + 1), .int (y55_2 + 1)]) G dX4_findPairs_161 wY_X4_endPrice wM_X4_82 wI_X4_endPrice wS_X4_endPrice (tk_rm hR (by decide) (by decide)) kX4 k0 (by decide) (c_X4_endPrice E h147 a0 (y55_1 + 1) (y55_2 + 1) k0) rfl rfl (Nat.le_of_ble_eq_true rfl) ⟨Nat.zero_le _, Nat.zero_le _⟩ (fun x161 => ?_)
            refine s_v (fun _ k => tk_iadd G dX4_findPairs_164 (tk_aload_n G dX4_findPairs_165 6 rfl (tk_gi G kX4 dX4_findPairs_166 wF_X4_42 k0 gI_4_8 k))) ?_
            refine s_icmp_ne (tgt := 176) G dX4_findPairs_169 (by decide) (fun q169 => ?_) (fun q169 => ?_)
            ·
              refine s_v (fun _ k => tk_iconst G dX4_findPairs_172 cI_1 (tk_goto (tgt := 177) G dX4_findPairs_173 (by decide) k)) ?_
              refine s_v (fun _ k => tk_istore (al' := [(5, .int 1), (4, .int 0), (2, .int (y55_2 + 1)), (1, .int (y55_1 + 1)), (3, .int ((y55_3 + (y55_4 * (g55 a0 7))) + x136.1)), (8, .int (((y55_1 + 1) * 11) + y55_2)), (7, .int (y55_3 + (y55_4 * (g55 a0 7)))), (0, .ref (e_ad E a0)), (6, .int y55_6)]) G dX4_findPairs_177 (by decide) rfl (tk_goto (tgt := 221) G dX4_findPairs_179 (by decide) k)) ?_
              refine s_v (fun _ k => tk_iinc (al' := [(6, .int (y55_6 + 1)), (5, .int 1), (4, .int 0), (2, .int (y55_2 + 1)), (1, .int (y55_1 + 1)), (3, .int ((y55_3 + (y55_4 * (g55 a0 7))) + x136.1)), (8, .int (((y55_1 + 1) * 11) + y55_2)), (7, .int (y55_3 + (y55_4 * (g55 a0 7)))), (0, .ref (e_ad E a0))]) G dX4_findPairs_221 8 rfl (ci_1 _) (by decide) rfl (tk_goto (tgt := 55) G dX4_findPairs_224 (by decide) k)) ?_
              refine s_sub [8, 4, 3, 5, 2, 1, 0] (al' := [(0, .ref (e_ad E a0)), (1, .int (y55_1 + 1)), (2, .int (y55_2 + 1)), (3, .int ((y55_3 + (y55_4 * (g55 a0 7))) + x136.1)), (4, .int 0), (5, .int 1), (6, .int (y55_6 + 1))]) rfl ?_
              exact hL55 _ _ _ _ _ _ _
            ·
              refine s_v (fun _ k => tk_iconst G dX4_findPairs_176 cI_0 (tk_istore (al' := [(5, .int 0), (4, .int 0), (2, .int (y55_2 + 1)), (1, .int (y55_1 + 1)), (3, .int ((y55_3 + (y55_4 * (g55 a0 7))) + x136.1)), (8, .int (((y55_1 + 1) * 11) + y55_2)), (7, .int (y55_3 + (y55_4 * (g55 a0 7)))), (0, .ref (e_ad E a0)), (6, .int y55_6)]) G dX4_findPairs_177 (by decide) rfl (tk_goto (tgt := 221) G dX4_findPairs_179 (by decide) k))) ?_
              refine s_v (fun _ k => tk_iinc (al' := [(6, .int (y55_6 + 1)), (5, .int 0), (4, .int 0), (2, .int (y55_2 + 1)), (1, .int (y55_1 + 1)), (3, .int ((y55_3 + (y55_4 * (g55 a0 7))) + x136.1)), (8, .int (((y55_1 + 1) * 11) + y55_2)), (7, .int (y55_3 + (y55_4 * (g55 a0 7)))), (0, .ref (e_ad E a0))]) G dX4_findPairs_221 8 rfl (ci_1 _) (by decide) rfl (tk_goto (tgt := 55) G dX4_findPairs_224 (by decide) k)) ?_
              refine s_sub [8, 4, 3, 5, 2, 1, 0] (al' := [(0, .ref (e_ad E a0)), (1, .int (y55_1 + 1)), (2, .int (y55_2 + 1)), (3, .int ((y55_3 + (y55_4 * (g55 a0 7))) + x136.1)), (4, .int 0), (5, .int 0), (6, .int (y55_6 + 1))]) rfl ?_
              exact hL55 _ _ _ _ _ _ _
          ·
            refine s_v (fun _ k => tk_iload G dX4_findPairs_182 7 rfl k) ?_
            refine s_if_ne (tgt := 209) G dX4_findPairs_184 (by decide) (fun q184 => ?_) (fun q184 => ?_)
            ·
              refine s_v (fun _ k => tk_iload G dX4_findPairs_187 1 rfl (tk_aload_n G dX4_findPairs_189 2 rfl (tk_gi G kX4 dX4_findPairs_190 wF_X4_38 k0 gI_4_7 (tk_iadd G dX4_findPairs_193 (tk_aload_n G dX4_findPairs_194 2 rfl (tk_gr G kX4 dX4_findPairs_195 wF_X4_25 k0 gR_4_3 (tk_iload G dX4_findPairs_198 0 rfl k))))))) ?_
              refine s_iald G dX4_findPairs_200 (kF_4_3 k0) (fun v200 => ?_)
              refine s_v (fun _ k => tk_iadd G dX4_findPairs_201 (tk_aload_n G dX4_findPairs_202 2 rfl (tk_gi G kX4 dX4_findPairs_203 wF_X4_42 k0 gI_4_8 k))) ?_
              refine s_icmp_ne (tgt := 215) G dX4_findPairs_206 (by decide) (fun q206 => ?_) (fun q206 => ?_)
              ·
                refine s_v (fun _ k => tk_iinc (al' := [(1, .int (y55_1 + 1)), (8, .int (((y55_1 + 1) * 11) + y55_2)), (7, .int (y55_3 + (y55_4 * (g55 a0 7)))), (0, .ref (e_ad E a0)), (2, .int y55_2), (3, .int y55_3), (4, .int y55_4), (5, .int y55_5), (6, .int y55_6)]) G dX4_findPairs_209 3 rfl (ci_1 _) (by decide) rfl (tk_goto (tgt := 218) G dX4_findPairs_212 (by decide) k)) ?_
                refine s_v (fun _ k => tk_iinc (al' := [(4, .int (y55_4 + 1)), (1, .int (y55_1 + 1)), (8, .int (((y55_1 + 1) * 11) + y55_2)), (7, .int (y55_3 + (y55_4 * (g55 a0 7)))), (0, .ref (e_ad E a0)), (2, .int y55_2), (3, .int y55_3), (5, .int y55_5), (6, .int y55_6)]) G dX4_findPairs_218 6 rfl (ci_1 _) (by decide) rfl (tk_iinc (al' := [(6, .int (y55_6 + 1)), (4, .int (y55_4 + 1)), (1, .int (y55_1 + 1)), (8, .int (((y55_1 + 1) * 11) + y55_2)), (7, .int (y55_3 + (y55_4 * (g55 a0 7)))), (0, .ref (e_ad E a0)), (2, .int y55_2), (3, .int y55_3), (5, .int y55_5)]) G dX4_findPairs_221 8 rfl (ci_1 _) (by decide) rfl (tk_goto (tgt := 55) G dX4_findPairs_224 (by decide) k))) ?_
                refine s_sub [5, 2, 6, 7, 1, 8, 0] (al' := [(0, .ref (e_ad E a0)), (1, .int (y55_1 + 1)), (2, .int y55_2), (3, .int y55_3), (4, .int (y55_4 + 1)), (5, .int y55_5), (6, .int (y55_6 + 1))]) rfl ?_
                exact hL55 _ _ _ _ _ _ _
              ·
                refine s_v (fun _ k => tk_iinc (al' := [(2, .int (y55_2 + 1)), (8, .int (((y55_1 + 1) * 11) + y55_2)), (7, .int (y55_3 + (y55_4 * (g55 a0 7)))), (0, .ref (e_ad E a0)), (1, .int y55_1), (3, .int y55_3), (4, .int y55_4), (5, .int y55_5), (6, .int y55_6)]) G dX4_findPairs_215 4 rfl (ci_1 _) (by decide) rfl (tk_iinc (al' := [(4, .int (y55_4 + 1)), (2, .int (y55_2 + 1)), (8, .int (((y55_1 + 1) * 11) + y55_2)), (7, .int (y55_3 + (y55_4 * (g55 a0 7)))), (0, .ref (e_ad E a0)), (1, .int y55_1), (3, .int y55_3), (5, .int y55_5), (6, .int y55_6)]) G dX4_findPairs_218 6 rfl (ci_1 _) (by decide) rfl (tk_iinc (al' := [(6, .int (y55_6 + 1)), (4, .int (y55_4 + 1)), (2, .int (y55_2 + 1)), (8, .int (((y55_1 + 1) * 11) + y55_2)), (7, .int (y55_3 + (y55_4 * (g55 a0 7)))), (0, .ref (e_ad E a0)), (1, .int y55_1), (3, .int y55_3), (5, .int y55_5)]) G dX4_findPairs_221 8 rfl (ci_1 _) (by decide) rfl (tk_goto (tgt := 55) G dX4_findPairs_224 (by decide) k)))) ?_
                refine s_sub [5, 6, 2, 7, 1, 8, 0] (al' := [(0, .ref (e_ad E a0)), (1, .int y55_1), (2, .int (y55_2 + 1)), (3, .int y55_3), (4, .int (y55_4 + 1)), (5, .int y55_5), (6, .int (y55_6 + 1))]) rfl ?_
                exact hL55 _ _ _ _ _ _ _
            ·
              refine s_v (fun _ k => tk_iinc (al' := [(1, .int (y55_1 + 1)), (8, .int (((y55_1 + 1) * 11) + y55_2)), (7, .int (y55_3 + (y55_4 * (g55 a0 7)))), (0, .ref (e_ad E a0)), (2, .int y55_2), (3, .int y55_3), (4, .int y55_4), (5, .int y55_5), (6, .int y55_6)]) G dX4_findPairs_209 3 rfl (ci_1 _) (by decide) rfl (tk_goto (tgt := 218) G dX4_findPairs_212 (by decide) k)) ?_
              refine s_v (fun _ k => tk_iinc (al' := [(4, .int (y55_4 + 1)), (1, .int (y55_1 + 1)), (8, .int (((y55_1 + 1) * 11) + y55_2)), (7, .int (y55_3 + (y55_4 * (g55 a0 7)))), (0, .ref (e_ad E a0)), (2, .int y55_2), (3, .int y55_3), (5, .int y55_5), (6, .int y55_6)]) G dX4_findPairs_218 6 rfl (ci_1 _) (by decide) rfl (tk_iinc (al' := [(6, .int (y55_6 + 1)), (4, .int (y55_4 + 1)), (1, .int (y55_1 + 1)), (8, .int (((y55_1 + 1) * 11) + y55_2)), (7, .int (y55_3 + (y55_4 * (g55 a0 7)))), (0, .ref (e_ad E a0)), (2, .int y55_2), (3, .int y55_3), (5, .int y55_5)]) G dX4_findPairs_221 8 rfl (ci_1 _) (by decide) rfl (tk_goto (tgt := 55) G dX4_findPairs_224 (by decide) k))) ?_
              refine s_sub [5, 2, 6, 7, 1, 8, 0] (al' := [(0, .ref (e_ad E a0)), (1, .int (y55_1 + 1)), (2, .int y55_2), (3, .int y55_3), (4, .int (y55_4 + 1)), (5, .int y55_5), (6, .int (y55_6 + 1))]) rfl ?_
              exact hL55 _ _ _ _ _ _ _
  refine s_icmp_ne (tgt := 49) G dX4_findPairs_42 (by decide) (fun q42 => ?_) (fun q42 => ?_)
  ·
    refine s_v (fun _ k => tk_iconst G dX4_findPairs_45 cI_1 (tk_goto (tgt := 50) G dX4_findPairs_46 (by decide) k)) ?_
    refine s_sub [4, 3, 2, 1, 0] (al' := [(0, .ref (e_ad E a0)), (1, .int 0), (2, .int 0), (3, .int 0), (4, .int 0)]) rfl ?_
    exact hJ50 _ _
  ·
    refine s_v (fun _ k => tk_iconst G dX4_findPairs_49 cI_0 k) ?_
    refine s_sub [4, 3, 2, 1, 0] (al' := [(0, .ref (e_ad E a0)), (1, .int 0), (2, .int 0), (3, .int 0), (4, .int 0)]) rfl ?_
    exact hJ50 _ _
theorem c_X4_findPairs (E : tkE) (h : tkH) (a0 : Nat) (k0 : kd a0 = 7) : ∀ x, f_X4_findPairs h a0 = some x → tkM E yX4_findPairs cX4_findPairs 9 none 2 tkF [.ref (e_ad E a0)] h none x := fun x hx => tkM_of (by decide) (Nat.le_of_ble_eq_true rfl) (fun _ hR G => w_X4_findPairs hR G h a0 k0 x hx)
set_option maxRecDepth 100000 in
set_option maxHeartbeats 4000000 in
theorem w_X5_takeLaid {E : tkE} {X : tkX} (hR : x_R X = tkR 2) (G : tkG E X cX5_takeLaid 3 RX5 none) (h : tkH) (a0 : Nat) (a1 : Nat) (a2 : Int32) (k0 : kd a0 = 8) (k1 : kd a1 = 3) : tkS E X 3 0 0 (tkZv E X) 0 [(0, .ref (e_ad E a0)), (1, .ref (e_ad E a1)), (2, .int a2)] [] h (f_X5_takeLaid h a0 a1 a2) := by
  unfold f_X5_takeLaid
  refine s_v (fun _ k => tk_aload_n G dX5_takeLaid_0 0 rfl (tk_aload_n G dX5_takeLaid_1 1 rfl (tk_iload_n G dX5_takeLaid_2 2 rfl (tk_aload_n G dX5_takeLaid_3 1 rfl (tk_iload_n G dX5_takeLaid_4 2 rfl k))))) ?_
  refine s_callVI (As := [.int a2]) G dX5_takeLaid_5 wY_X0_firstLaid wM_X5_15 wI_X0_firstLaid wS_X0_firstLaid (tk_rm hR (by decide) (by decide)) kX0 k1 (by decide) (c_X0_firstLaid E h a1 a2 k1) rfl rfl (Nat.le_of_ble_eq_true rfl) ⟨Nat.zero_le _, Nat.zero_le _⟩ (fun x5 => ?_)
  refine s_v (fun _ k => tk_aload_n G dX5_takeLaid_8 1 rfl (tk_iload_n G dX5_takeLaid_9 2 rfl k)) ?_
  refine s_callVI (As := [.int a2]) G dX5_takeLaid_10 wY_X0_laidLength wM_X5_21 wI_X0_laidLength wS_X0_laidLength (tk_rm hR (by decide) (by decide)) kX0 k1 (by decide) (c_X0_laidLength E x5.2 a1 a2 k1) rfl rfl (Nat.le_of_ble_eq_true rfl) ⟨Nat.zero_le _, Nat.zero_le _⟩ (fun x10 => ?_)
  refine s_callVV (As := [.ref (e_ad E a1), .int a2, .int x5.1, .int x10.1]) G dX5_takeLaid_13 wY_X5_takePart wM_X5_24 wI_X5_takePart wS_X5_takePart (tk_rm hR (by decide) (by decide)) kX5 k0 (by decide) (c_X5_takePart E x10.2 a0 a1 a2 x5.1 x10.1 k0 k1) rfl rfl (Nat.le_of_ble_eq_true rfl) ⟨Nat.zero_le _, Nat.zero_le _⟩ (fun x13 => ?_)
  refine s_v (fun _ k => tk_aload_n G dX5_takeLaid_16 0 rfl (tk_aload_n G dX5_takeLaid_17 1 rfl (tk_iload_n G dX5_takeLaid_18 2 rfl k))) ?_
  refine s_callVI (As := [.int a2]) G dX5_takeLaid_19 wY_X0_isTorn wM_X5_28 wI_X0_isTorn wS_X0_isTorn (tk_rm hR (by decide) (by decide)) kX0 k1 (by decide) (c_X0_isTorn E x13 a1 a2 k1) rfl rfl (Nat.le_of_ble_eq_true rfl) ⟨Nat.zero_le _, Nat.zero_le _⟩ (fun x19 => ?_)
  refine s_pz G kX5 dX5_takeLaid_22 wF_X5_32 k0 gP_5_2 (fun u22 => ?_)
  exact s_vret G dX5_takeLaid_25
theorem c_X5_takeLaid (E : tkE) (h : tkH) (a0 : Nat) (a1 : Nat) (a2 : Int32) (k0 : kd a0 = 8) (k1 : kd a1 = 3) : ∀ x, f_X5_takeLaid h a0 a1 a2 = some x → tkM E yX5_takeLaid cX5_takeLaid 3 none 2 tkF [.ref (e_ad E a0), .ref (e_ad E a1), .int a2] h none x := fun x hx => tkM_of (by decide) (Nat.le_of_ble_eq_true rfl) (fun _ hR G => w_X5_takeLaid hR G h a0 a1 a2 k0 k1 x hx)
set_option maxRecDepth 100000 in
set_option maxHeartbeats 4000000 in
theorem w_X6_tellsSteps {E : tkE} {X : tkX} (hR : x_R X = tkR 2) (G : tkG E X cX6_tellsSteps 2 RX6 (some .boolean)) (h : tkH) (a0 : Nat) (k0 : kd a0 = 9) : tkS E X 2 0 0 (tkZi E X) 0 [(0, .ref (e_ad E a0))] [] h (f_X6_tellsSteps h a0) := by
  unfold f_X6_tellsSteps
  refine s_v (fun _ k => tk_iconst G dX6_tellsSteps_0 cI_0 (tk_istore_n (al' := [(1, .int 0), (0, .ref (e_ad E a0))]) G dX6_tellsSteps_1 (by decide) rfl k)) ?_
  refine s_sub [1, 0] (al' := [(0, .ref (e_ad E a0)), (1, .int 0)]) rfl ?_
  unfold f_X6_tellsSteps_L2
  refine s_lp1 (al := fun y2_1 => [(0, .ref (e_ad E a0)), (1, .int y2_1)]) (fun kk2 hL2 g2 y2_1 => ?_) _ _ _
  refine s_v (fun _ k => tk_iload_n G dX6_tellsSteps_2 1 rfl (tk_aload_n G dX6_tellsSteps_3 0 rfl k)) ?_
  refine s_callVI (As := []) G dX6_tellsSteps_4 wY_X6_howManySteps wM_X6_29 wI_X6_howManySteps wS_X6_howManySteps (tk_rm hR (by decide) (by decide)) kX6 k0 (by decide) (c_X6_howManySteps E g2 a0 k0) rfl rfl (Nat.le_of_ble_eq_true rfl) ⟨Nat.zero_le _, Nat.zero_le _⟩ (fun x4 => ?_)
  refine s_icmp_ge (tgt := 52) G dX6_tellsSteps_7 (by decide) (fun q7 => ?_) (fun q7 => ?_)
  ·
    refine s_v (fun _ k => tk_iconst G dX6_tellsSteps_52 cI_1 k) ?_
    exact s_zret G dX6_tellsSteps_53 (by decide)
  ·
    refine s_v (fun _ k => tk_aload_n G dX6_tellsSteps_10 0 rfl (tk_gr G kX6 dX6_tellsSteps_11 wF_X6_9 k0 gR_6_2 (tk_iconst G dX6_tellsSteps_14 cI_3 (tk_iload_n G dX6_tellsSteps_15 1 rfl (tk_imul G dX6_tellsSteps_16 k))))) ?_
    refine s_iald G dX6_tellsSteps_17 (kF_6_2 k0) (fun v17 => ?_)
    refine s_v (fun _ k => tk_aload_n G dX6_tellsSteps_18 0 rfl (tk_gr G kX6 dX6_tellsSteps_19 wF_X6_9 k0 gR_6_2 (tk_iconst G dX6_tellsSteps_22 cI_3 (tk_iload_n G dX6_tellsSteps_23 1 rfl (tk_imul G dX6_tellsSteps_24 (tk_iconst G dX6_tellsSteps_25 cI_1 (tk_iadd G dX6_tellsSteps_26 k))))))) ?_
    refine s_iald G dX6_tellsSteps_27 (kF_6_2 k0) (fun v27 => ?_)
    refine s_v (fun _ k => tk_aload_n G dX6_tellsSteps_28 0 rfl (tk_gr G kX6 dX6_tellsSteps_29 wF_X6_9 k0 gR_6_2 (tk_iconst G dX6_tellsSteps_32 cI_3 (tk_iload_n G dX6_tellsSteps_33 1 rfl (tk_imul G dX6_tellsSteps_34 (tk_iconst G dX6_tellsSteps_35 cI_2 (tk_iadd G dX6_tellsSteps_36 k))))))) ?_
    refine s_iald G dX6_tellsSteps_37 (kF_6_2 k0) (fun v37 => ?_)
    refine s_callSNI (As := [.int v17, .int v27, .int v37]) G dX6_tellsSteps_38 wY_X8_isStep wM_X6_33 wI_X8_isStep (tk_rm hR (by decide) (by decide)) (c_X8_isStep E x4.2 v17 v27 v37) rfl rfl (Nat.le_of_ble_eq_true rfl) ⟨Nat.zero_le _, Nat.zero_le _⟩ (fun x38 => ?_)
    refine s_if_ne (tgt := 46) G dX6_tellsSteps_41 (by decide) (fun q41 => ?_) (fun q41 => ?_)
    ·
      refine s_v (fun _ k => tk_iconst G dX6_tellsSteps_44 cI_0 k) ?_
      exact s_zret G dX6_tellsSteps_45 (by decide)
    ·
      refine s_v (fun _ k => tk_iinc (al' := [(1, .int (y2_1 + 1)), (0, .ref (e_ad E a0))]) G dX6_tellsSteps_46 1 rfl (ci_1 _) (by decide) rfl (tk_goto (tgt := 2) G dX6_tellsSteps_49 (by decide) k)) ?_
      refine s_sub [1, 0] (al' := [(0, .ref (e_ad E a0)), (1, .int (y2_1 + 1))]) rfl ?_
      exact hL2 _ _
theorem c_X6_tellsSteps (E : tkE) (h : tkH) (a0 : Nat) (k0 : kd a0 = 9) : ∀ x, f_X6_tellsSteps h a0 = some x → tkM E yX6_tellsSteps cX6_tellsSteps 2 (some .boolean) 2 tkF [.ref (e_ad E a0)] h (some (.int x.1)) x.2 := fun x hx => tkM_of (by decide) (Nat.le_of_ble_eq_true rfl) (fun _ hR G => w_X6_tellsSteps hR G h a0 k0 x hx)
set_option maxRecDepth 100000 in
set_option maxHeartbeats 4000000 in
theorem w_X7_grow {E : tkE} {X : tkX} (hR : x_R X = tkR 2) (G : tkG E X cX7_grow 5 RX7 none) (h : tkH) (a0 : Nat) (a1 : Nat) (a2 : Int32) (k0 : kd a0 = 10) (k1 : kd a1 = 0) : tkS E X 5 0 0 (tkZv E X) 0 [(0, .ref (e_ad E a0)), (1, .ref (e_ad E a1)), (2, .int a2)] [] h (f_X7_grow h a0 a1 a2) := by
  unfold f_X7_grow
  refine s_v (fun _ k => tk_iconst G dX7_grow_0 cI_0 (tk_istore_n (al' := [(3, .int 0), (0, .ref (e_ad E a0)), (1, .ref (e_ad E a1)), (2, .int a2)]) G dX7_grow_1 (by decide) rfl k)) ?_
  have hX21 : ∀ (gz21 : tkH), tkS E X 5 0 0 (tkZv E X) 21 [(0, .ref (e_ad E a0)), (1, .ref (e_ad E a1)), (2, .int a2)] [] gz21 ((f_J6_bitCount_0f7a4 (tkup (tkup gz21 a0 2 0) a0 3 0) a2).bind fun x32 => f_X7_grow_L41 x32 a0 a1 a2 FU x32.2 0) := by
    intro gz21
    refine s_v (fun _ k => tk_aload_n G dX7_grow_21 0 rfl (tk_iconst G dX7_grow_22 cI_0 (tk_pi G kX7 dX7_grow_23 wF_X7_18 k0 gP_7_2 (tk_aload_n G dX7_grow_26 0 rfl (tk_iconst G dX7_grow_27 cI_0 (tk_pi G kX7 dX7_grow_28 wF_X7_22 k0 gP_7_3 (tk_iload_n G dX7_grow_31 2 rfl k))))))) ?_
    refine s_callSI (As := [.int a2]) G dX7_grow_32 wY_J6_bitCount_0f7a4 wM_X7_25 wI_J6_bitCount_0f7a4 (tk_rm hR (by decide) (by decide)) (c_J6_bitCount_0f7a4 E (tkup (tkup gz21 a0 2 0) a0 3 0) a2) rfl rfl (Nat.le_of_ble_eq_true rfl) ⟨Nat.zero_le _, Nat.zero_le _⟩ (fun x32 => ?_)
    refine s_v (fun _ k => tk_iconst G dX7_grow_35 cI_1 (tk_isub G dX7_grow_36 (tk_istore_n (al' := [(3, .int (x32.1 - 1)), (0, .ref (e_ad E a0)), (1, .ref (e_ad E a1)), (2, .int a2)]) G dX7_grow_37 (by decide) rfl (tk_iconst G dX7_grow_38 cI_0 (tk_istore (al' := [(4, .int 0), (3, .int (x32.1 - 1)), (0, .ref (e_ad E a0)), (1, .ref (e_ad E a1)), (2, .int a2)]) G dX7_grow_39 (by decide) rfl k))))) ?_
    refine s_sub [2, 3, 4, 1, 0] (al' := [(0, .ref (e_ad E a0)), (1, .ref (e_ad E a1)), (2, .int a2), (3, .int (x32.1 - 1)), (4, .int 0)]) rfl ?_
    unfold f_X7_grow_L41
    refine s_lp1 (al := fun y41_4 => [(0, .ref (e_ad E a0)), (1, .ref (e_ad E a1)), (2, .int a2), (3, .int (x32.1 - 1)), (4, .int y41_4)]) (fun kk41 hL41 g41 y41_4 => ?_) _ _ _
    refine s_v (fun _ k => tk_iload G dX7_grow_41 4 rfl (tk_iload_n G dX7_grow_43 3 rfl k)) ?_
    refine s_icmp_ge (tgt := 66) G dX7_grow_44 (by decide) (fun q44 => ?_) (fun q44 => ?_)
    ·
      exact s_vret G dX7_grow_66
    ·
      refine s_v (fun _ k => tk_iload G dX7_grow_47 4 rfl (tk_bipush G dX7_grow_49 cB_10 k)) ?_
      refine s_icmp_ge (tgt := 66) G dX7_grow_51 (by decide) (fun q51 => ?_) (fun q51 => ?_)
      ·
        exact s_vret G dX7_grow_66
      ·
        refine s_v (fun _ k => tk_aload_n G dX7_grow_54 0 rfl (tk_aload_n G dX7_grow_55 1 rfl (tk_iload_n G dX7_grow_56 2 rfl k))) ?_
        refine s_callVV (As := [.ref (e_ad E a1), .int a2]) G dX7_grow_57 wY_X7_addBranch wM_X7_31 wI_X7_addBranch wS_X7_addBranch (tk_rm hR (by decide) (by decide)) kX7 k0 (by decide) (c_X7_addBranch E g41 a0 a1 a2 k0 k1) rfl rfl (Nat.le_of_ble_eq_true rfl) ⟨Nat.zero_le _, Nat.zero_le _⟩ (fun x57 => ?_)
        refine s_v (fun _ k => tk_iinc (al' := [(4, .int (y41_4 + 1)), (0, .ref (e_ad E a0)), (1, .ref (e_ad E a1)), (2, .int a2), (3, .int (x32.1 - 1))]) G dX7_grow_60 4 rfl (ci_1 _) (by decide) rfl (tk_goto (tgt := 41) G dX7_grow_63 (by decide) k)) ?_
        refine s_sub [1, 2, 3, 4, 0] (al' := [(0, .ref (e_ad E a0)), (1, .ref (e_ad E a1)), (2, .int a2), (3, .int (x32.1 - 1)), (4, .int (y41_4 + 1))]) rfl ?_
        exact hL41 _ _
  refine s_sub [1, 2, 3, 0] (al' := [(0, .ref (e_ad E a0)), (1, .ref (e_ad E a1)), (2, .int a2), (3, .int 0)]) rfl ?_
  unfold f_X7_grow_L2
  refine s_lp1 (al := fun y2_3 => [(0, .ref (e_ad E a0)), (1, .ref (e_ad E a1)), (2, .int a2), (3, .int y2_3)]) (fun kk2 hL2 g2 y2_3 => ?_) _ _ _
  refine s_v (fun _ k => tk_iload_n G dX7_grow_2 3 rfl (tk_bipush G dX7_grow_3 cB_10 k)) ?_
  refine s_icmp_ge (tgt := 21) G dX7_grow_5 (by decide) (fun q5 => ?_) (fun q5 => ?_)
  ·
    refine s_sub [0, 1, 2] (al' := [(0, .ref (e_ad E a0)), (1, .ref (e_ad E a1)), (2, .int a2)]) rfl ?_
    exact hX21 _
  ·
    refine s_v (fun _ k => tk_aload_n G dX7_grow_8 0 rfl (tk_gr G kX7 dX7_grow_9 wF_X7_9 k0 gR_7_0 (tk_iload_n G dX7_grow_12 3 rfl (tk_iload_n G dX7_grow_13 3 rfl k)))) ?_
    refine s_iast G dX7_grow_14 (kF_7_0 k0) (fun h14 => ?_)
    refine s_v (fun _ k => tk_iinc (al' := [(3, .int (y2_3 + 1)), (0, .ref (e_ad E a0)), (1, .ref (e_ad E a1)), (2, .int a2)]) G dX7_grow_15 3 rfl (ci_1 _) (by decide) rfl (tk_goto (tgt := 2) G dX7_grow_18 (by decide) k)) ?_
    refine s_sub [1, 2, 3, 0] (al' := [(0, .ref (e_ad E a0)), (1, .ref (e_ad E a1)), (2, .int a2), (3, .int (y2_3 + 1))]) rfl ?_
    exact hL2 _ _
theorem c_X7_grow (E : tkE) (h : tkH) (a0 : Nat) (a1 : Nat) (a2 : Int32) (k0 : kd a0 = 10) (k1 : kd a1 = 0) : ∀ x, f_X7_grow h a0 a1 a2 = some x → tkM E yX7_grow cX7_grow 5 none 2 tkF [.ref (e_ad E a0), .ref (e_ad E a1), .int a2] h none x := fun x hx => tkM_of (by decide) (Nat.le_of_ble_eq_true rfl) (fun _ hR G => w_X7_grow hR G h a0 a1 a2 k0 k1 x hx)
set_option maxRecDepth 100000 in
set_option maxHeartbeats 4000000 in
theorem w_X8_as {E : tkE} {X : tkX} (hR : x_R X = tkR 2) (G : tkG E X cX8_as 3 RX8 (some .int)) (h : tkH) (a0 : Nat) (a1 : Int32) (a2 : Int32) (k0 : kd a0 = 11) : tkS E X 3 0 0 (tkZi E X) 0 [(0, .ref (e_ad E a0)), (1, .int a1), (2, .int a2)] [] h (f_X8_as h a0 a1 a2) := by
  unfold f_X8_as
  refine s_v (fun _ k => tk_aload_n G dX8_as_0 0 rfl (tk_gr G kX8 dX8_as_1 wF_X8_10 k0 gR_8_0 (tk_iload_n G dX8_as_4 1 rfl k))) ?_
  refine s_callVI (As := [.int a1]) G dX8_as_5 wY_X0_hasTale wM_X8_76 wI_X0_hasTale wS_X0_hasTale (tk_rm hR (by decide) (by decide)) kX0 (kF_8_0 k0) (by decide) (c_X0_hasTale E h (fld a0 0) a1 (kF_8_0 k0)) rfl rfl (Nat.le_of_ble_eq_true rfl) ⟨Nat.zero_le _, Nat.zero_le _⟩ (fun x5 => ?_)
  have hJ19 : ∀ (g19 : tkH), tkS E X 3 0 0 (tkZi E X) 19 [(0, .ref (e_ad E a0))] [] g19 (f_X8_as_J19 a0 g19) := by
    intro g19
    unfold f_X8_as_J19
    refine s_v (fun _ k => tk_aload_n G dX8_as_19 0 rfl (tk_ldc G dX8_as_20 wK_X8_59 k)) ?_
    refine s_callVI (As := [.int (-100001)]) G dX8_as_22 wY_X8_finding wM_X8_60 wI_X8_finding wS_X8_finding (tk_rm hR (by decide) (by decide)) kX8 k0 (by decide) (c_X8_finding E g19 a0 (-100001) k0) rfl rfl (Nat.le_of_ble_eq_true rfl) ⟨Nat.zero_le _, Nat.zero_le _⟩ (fun x22 => ?_)
    exact s_iret G dX8_as_25
  refine s_if_eq (tgt := 19) G dX8_as_8 (by decide) (fun q8 => ?_) (fun q8 => ?_)
  ·
    refine s_sub [0] (al' := [(0, .ref (e_ad E a0))]) rfl ?_
    exact hJ19 _
  ·
    refine s_v (fun _ k => tk_iload_n G dX8_as_11 2 rfl (tk_iconst G dX8_as_12 cI_4 k)) ?_
    refine s_callSI (As := [.int a2, .int 4]) G dX8_as_13 wY_X8_isWithin wM_X8_55 wI_X8_isWithin (tk_rm hR (by decide) (by decide)) (c_X8_isWithin E x5.2 a2 4) rfl rfl (Nat.le_of_ble_eq_true rfl) ⟨Nat.zero_le _, Nat.zero_le _⟩ (fun x13 => ?_)
    refine s_if_ne (tgt := 26) G dX8_as_16 (by decide) (fun q16 => ?_) (fun q16 => ?_)
    ·
      refine s_sub [0] (al' := [(0, .ref (e_ad E a0))]) rfl ?_
      exact hJ19 _
    ·
      refine s_v (fun _ k => tk_aload_n G dX8_as_26 0 rfl (tk_gr G kX8 dX8_as_27 wF_X8_10 k0 gR_8_0 (tk_gr G kX0 dX8_as_30 wF_X8_80 (kF_8_0 k0) gR_0_1 (tk_iload_n G dX8_as_33 1 rfl k)))) ?_
      refine s_iald G dX8_as_34 (kF_0_1 (kF_8_0 k0)) (fun v34 => ?_)
      refine s_v (fun _ k => tk_iload_n G dX8_as_35 2 rfl k) ?_
      refine s_callSI (As := [.int v34, .int a2]) G dX8_as_36 wY_X8_isUnder wM_X8_84 wI_X8_isUnder (tk_rm hR (by decide) (by decide)) (c_X8_isUnder E x13.2 v34 a2) rfl rfl (Nat.le_of_ble_eq_true rfl) ⟨Nat.zero_le _, Nat.zero_le _⟩ (fun x36 => ?_)
      refine s_if_eq (tgt := 46) G dX8_as_39 (by decide) (fun q39 => ?_) (fun q39 => ?_)
      ·
        refine s_v (fun _ k => tk_aload_n G dX8_as_46 0 rfl (tk_ldc G dX8_as_47 wK_X8_87 k)) ?_
        refine s_callVI (As := [.int (-100004)]) G dX8_as_49 wY_X8_finding wM_X8_60 wI_X8_finding wS_X8_finding (tk_rm hR (by decide) (by decide)) kX8 k0 (by decide) (c_X8_finding E x36.2 a0 (-100004) k0) rfl rfl (Nat.le_of_ble_eq_true rfl) ⟨Nat.zero_le _, Nat.zero_le _⟩ (fun x49 => ?_)
        exact s_iret G dX8_as_52
      ·
        refine s_v (fun _ k => tk_iload_n G dX8_as_42 1 rfl (tk_goto (tgt := 52) G dX8_as_43 (by decide) k)) ?_
        exact s_iret G dX8_as_52
theorem c_X8_as (E : tkE) (h : tkH) (a0 : Nat) (a1 : Int32) (a2 : Int32) (k0 : kd a0 = 11) : ∀ x, f_X8_as h a0 a1 a2 = some x → tkM E yX8_as cX8_as 3 (some .int) 2 tkF [.ref (e_ad E a0), .int a1, .int a2] h (some (.int x.1)) x.2 := fun x hx => tkM_of (by decide) (Nat.le_of_ble_eq_true rfl) (fun _ hR G => w_X8_as hR G h a0 a1 a2 k0 x hx)
set_option maxRecDepth 100000 in
set_option maxHeartbeats 4000000 in
theorem w_X8_mouldOf {E : tkE} {X : tkX} (hR : x_R X = tkR 2) (G : tkG E X cX8_mouldOf 6 RX8 (some .int)) (h : tkH) (a0 : Nat) (a1 : Int32) (k0 : kd a0 = 11) : tkS E X 6 0 0 (tkZi E X) 0 [(0, .ref (e_ad E a0)), (1, .int a1)] [] h (f_X8_mouldOf h a0 a1) := by
  unfold f_X8_mouldOf
  refine s_v (fun _ k => tk_iconst G dX8_mouldOf_0 cI_m1 (tk_istore_n (al' := [(2, .int (-1)), (0, .ref (e_ad E a0)), (1, .int a1)]) G dX8_mouldOf_1 (by decide) rfl (tk_iconst G dX8_mouldOf_2 cI_0 (tk_istore_n (al' := [(3, .int 0), (2, .int (-1)), (0, .ref (e_ad E a0)), (1, .int a1)]) G dX8_mouldOf_3 (by decide) rfl (tk_iconst G dX8_mouldOf_4 cI_0 (tk_istore (al' := [(4, .int 0), (3, .int 0), (2, .int (-1)), (0, .ref (e_ad E a0)), (1, .int a1)]) G dX8_mouldOf_5 (by decide) rfl k)))))) ?_
  refine s_sub [3, 4, 2, 1, 0] (al' := [(0, .ref (e_ad E a0)), (1, .int a1), (2, .int (-1)), (3, .int 0), (4, .int 0)]) rfl ?_
  unfold f_X8_mouldOf_L7
  refine s_lp3 (al := fun y7_2 y7_3 y7_4 => [(0, .ref (e_ad E a0)), (1, .int a1), (2, .int y7_2), (3, .int y7_3), (4, .int y7_4)]) (fun kk7 hL7 g7 y7_2 y7_3 y7_4 => ?_) _ _ _ _ _
  refine s_v (fun _ k => tk_iload G dX8_mouldOf_7 4 rfl (tk_aload_n G dX8_mouldOf_9 0 rfl (tk_gr G kX8 dX8_mouldOf_10 wF_X8_10 k0 gR_8_0 (tk_gi G kX0 dX8_mouldOf_13 wF_X8_64 (kF_8_0 k0) gI_0_0 k)))) ?_
  refine s_icmp_ge (tgt := 59) G dX8_mouldOf_16 (by decide) (fun q16 => ?_) (fun q16 => ?_)
  ·
    refine s_v (fun _ k => tk_iload_n G dX8_mouldOf_59 2 rfl k) ?_
    exact s_iret G dX8_mouldOf_60
  ·
    refine s_v (fun _ k => tk_iload_n G dX8_mouldOf_19 1 rfl (tk_iload G dX8_mouldOf_20 4 rfl k)) ?_
    refine s_callSI (As := [.int a1, .int y7_4]) G dX8_mouldOf_22 wY_X8_isInHeap wM_X8_287 wI_X8_isInHeap (tk_rm hR (by decide) (by decide)) (c_X8_isInHeap E g7 a1 y7_4) rfl rfl (Nat.le_of_ble_eq_true rfl) ⟨Nat.zero_le _, Nat.zero_le _⟩ (fun x22 => ?_)
    refine s_if_eq (tgt := 53) G dX8_mouldOf_25 (by decide) (fun q25 => ?_) (fun q25 => ?_)
    ·
      refine s_v (fun _ k => tk_iinc (al' := [(4, .int (y7_4 + 1)), (0, .ref (e_ad E a0)), (1, .int a1), (2, .int y7_2), (3, .int y7_3)]) G dX8_mouldOf_53 4 rfl (ci_1 _) (by decide) rfl (tk_goto (tgt := 7) G dX8_mouldOf_56 (by decide) k)) ?_
      refine s_sub [1, 2, 3, 4, 0] (al' := [(0, .ref (e_ad E a0)), (1, .int a1), (2, .int y7_2), (3, .int y7_3), (4, .int (y7_4 + 1))]) rfl ?_
      exact hL7 _ _ _ _
    ·
      refine s_v (fun _ k => tk_aload_n G dX8_mouldOf_28 0 rfl (tk_iload G dX8_mouldOf_29 4 rfl (tk_iload_n G dX8_mouldOf_31 1 rfl k))) ?_
      refine s_callVI (As := [.int y7_4, .int a1]) G dX8_mouldOf_32 wY_X8_sumOfCosts wM_X8_195 wI_X8_sumOfCosts wS_X8_sumOfCosts (tk_rm hR (by decide) (by decide)) kX8 k0 (by decide) (c_X8_sumOfCosts E x22.2 a0 y7_4 a1 k0) rfl rfl (Nat.le_of_ble_eq_true rfl) ⟨Nat.zero_le _, Nat.zero_le _⟩ (fun x32 => ?_)
      refine s_v (fun _ k => tk_istore (al' := [(5, .int x32.1), (0, .ref (e_ad E a0)), (1, .int a1), (2, .int y7_2), (3, .int y7_3), (4, .int y7_4)]) G dX8_mouldOf_35 (by decide) rfl (tk_iload_n G dX8_mouldOf_37 3 rfl k)) ?_
      have hJ47 : ∀ (g47 : tkH), tkS E X 6 0 0 (tkZi E X) 47 [(0, .ref (e_ad E a0)), (1, .int a1), (4, .int y7_4), (5, .int x32.1)] [] g47 (f_X8_mouldOf_J47 kk7 y7_4 x32 g47) := by
        intro g47
        unfold f_X8_mouldOf_J47
        refine s_v (fun _ k => tk_iload G dX8_mouldOf_47 2 rfl (tk_istore_n (al' := [(2, .int y7_4), (0, .ref (e_ad E a0)), (1, .int a1), (4, .int y7_4), (5, .int x32.1)]) G dX8_mouldOf_49 (by decide) rfl (tk_iload G dX8_mouldOf_50 4 rfl (tk_istore_n (al' := [(3, .int x32.1), (2, .int y7_4), (0, .ref (e_ad E a0)), (1, .int a1), (4, .int y7_4), (5, .int x32.1)]) G dX8_mouldOf_52 (by decide) rfl (tk_iinc (al' := [(4, .int (y7_4 + 1)), (3, .int x32.1), (2, .int y7_4), (0, .ref (e_ad E a0)), (1, .int a1), (5, .int x32.1)]) G dX8_mouldOf_53 4 rfl (ci_1 _) (by decide) rfl (tk_goto (tgt := 7) G dX8_mouldOf_56 (by decide) k)))))) ?_
        refine s_sub [3, 4, 2, 1, 0] (al' := [(0, .ref (e_ad E a0)), (1, .int a1), (2, .int y7_4), (3, .int x32.1), (4, .int (y7_4 + 1))]) rfl ?_
        exact hL7 _ _ _ _
      refine s_if_lt (tgt := 47) G dX8_mouldOf_38 (by decide) (fun q38 => ?_) (fun q38 => ?_)
      ·
        refine s_sub [1, 2, 5, 0] (al' := [(0, .ref (e_ad E a0)), (1, .int a1), (4, .int y7_4), (5, .int x32.1)]) rfl ?_
        exact hJ47 _
      ·
        refine s_v (fun _ k => tk_iload G dX8_mouldOf_41 0 rfl (tk_iload_n G dX8_mouldOf_43 4 rfl k)) ?_
        refine s_icmp_ge (tgt := 53) G dX8_mouldOf_44 (by decide) (fun q44 => ?_) (fun q44 => ?_)
        ·
          refine s_v (fun _ k => tk_iinc (al' := [(4, .int (y7_4 + 1)), (5, .int x32.1), (0, .ref (e_ad E a0)), (1, .int a1), (2, .int y7_2), (3, .int y7_3)]) G dX8_mouldOf_53 5 rfl (ci_1 _) (by decide) rfl (tk_goto (tgt := 7) G dX8_mouldOf_56 (by decide) k)) ?_
          refine s_sub [2, 3, 4, 5, 0] (al' := [(0, .ref (e_ad E a0)), (1, .int a1), (2, .int y7_2), (3, .int y7_3), (4, .int (y7_4 + 1))]) rfl ?_
          exact hL7 _ _ _ _
        ·
          refine s_sub [1, 2, 5, 0] (al' := [(0, .ref (e_ad E a0)), (1, .int a1), (4, .int y7_4), (5, .int x32.1)]) rfl ?_
          exact hJ47 _
theorem c_X8_mouldOf (E : tkE) (h : tkH) (a0 : Nat) (a1 : Int32) (k0 : kd a0 = 11) : ∀ x, f_X8_mouldOf h a0 a1 = some x → tkM E yX8_mouldOf cX8_mouldOf 6 (some .int) 2 tkF [.ref (e_ad E a0), .int a1] h (some (.int x.1)) x.2 := fun x hx => tkM_of (by decide) (Nat.le_of_ble_eq_true rfl) (fun _ hR G => w_X8_mouldOf hR G h a0 a1 k0 x hx)
set_option maxRecDepth 100000 in
set_option maxHeartbeats 4000000 in
theorem w_X8_sheet {E : tkE} {X : tkX} (hR : x_R X = tkR 2) (G : tkG E X cX8_sheet 4 RX8 (some .int)) (h : tkH) (a0 : Nat) (a1 : Int32) (a2 : Int32) (a3 : Int32) (k0 : kd a0 = 11) : tkS E X 4 0 0 (tkZi E X) 0 [(0, .ref (e_ad E a0)), (1, .int a1), (2, .int a2), (3, .int a3)] [] h (f_X8_sheet h a0 a1 a2 a3) := by
  unfold f_X8_sheet
  refine s_v (fun _ k => tk_iload_n G dX8_sheet_0 1 rfl (tk_iconst G dX8_sheet_1 cI_4 k)) ?_
  refine s_callSI (As := [.int a1, .int 4]) G dX8_sheet_2 wY_X8_isWithin wM_X8_55 wI_X8_isWithin (tk_rm hR (by decide) (by decide)) (c_X8_isWithin E h a1 4) rfl rfl (Nat.le_of_ble_eq_true rfl) ⟨Nat.zero_le _, Nat.zero_le _⟩ (fun x2 => ?_)
  have hJ30 : ∀ (g30 : tkH), tkS E X 4 0 0 (tkZi E X) 30 [(0, .ref (e_ad E a0))] [] g30 (f_X8_sheet_J30 a0 g30) := by
    intro g30
    unfold f_X8_sheet_J30
    refine s_v (fun _ k => tk_aload_n G dX8_sheet_30 0 rfl (tk_ldc G dX8_sheet_31 wK_X8_59 k)) ?_
    refine s_callVI (As := [.int (-100001)]) G dX8_sheet_33 wY_X8_finding wM_X8_60 wI_X8_finding wS_X8_finding (tk_rm hR (by decide) (by decide)) kX8 k0 (by decide) (c_X8_finding E g30 a0 (-100001) k0) rfl rfl (Nat.le_of_ble_eq_true rfl) ⟨Nat.zero_le _, Nat.zero_le _⟩ (fun x33 => ?_)
    exact s_iret G dX8_sheet_36
  refine s_if_eq (tgt := 30) G dX8_sheet_5 (by decide) (fun q5 => ?_) (fun q5 => ?_)
  ·
    refine s_sub [0] (al' := [(0, .ref (e_ad E a0))]) rfl ?_
    exact hJ30 _
  ·
    refine s_v (fun _ k => tk_iload_n G dX8_sheet_8 2 rfl k) ?_
    have hJ37 : ∀ (g37 : tkH), tkS E X 4 0 0 (tkZi E X) 37 [(0, .ref (e_ad E a0)), (1, .int a1), (2, .int a2), (3, .int a3)] [] g37 (f_X8_sheet_J37 a3 a0 a1 a2 g37) := by
      intro g37
      unfold f_X8_sheet_J37
      refine s_v (fun _ k => tk_iload_n G dX8_sheet_37 3 rfl k) ?_
      refine s_if_ge (tgt := 48) G dX8_sheet_38 (by decide) (fun q38 => ?_) (fun q38 => ?_)
      ·
        refine s_v (fun _ k => tk_iload_n G dX8_sheet_48 3 rfl (tk_bipush G dX8_sheet_49 cB_30 k)) ?_
        refine s_icmp_le (tgt := 61) G dX8_sheet_51 (by decide) (fun q51 => ?_) (fun q51 => ?_)
        ·
          refine s_v (fun _ k => tk_aload_n G dX8_sheet_61 0 rfl (tk_gr G kX8 dX8_sheet_62 wF_X8_46 k0 gR_8_5 (tk_iload_n G dX8_sheet_65 1 rfl k))) ?_
          refine s_aaldS G dX8_sheet_66 (kF_8_5 k0) (fun b66 kb66 => ?_)
          refine s_v (fun _ k => tk_iload_n G dX8_sheet_67 2 rfl (tk_iload_n G dX8_sheet_68 3 rfl k)) ?_
          refine s_callVV (As := [.int a2, .int a3]) G dX8_sheet_69 wY_X6_makeAnew wM_X8_244 wI_X6_makeAnew wS_X6_makeAnew (tk_rm hR (by decide) (by decide)) kX6 kb66 (by decide) (c_X6_makeAnew E g37 b66 a2 a3 kb66) rfl rfl (Nat.le_of_ble_eq_true rfl) ⟨Nat.zero_le _, Nat.zero_le _⟩ (fun x69 => ?_)
          refine s_v (fun _ k => tk_aload_n G dX8_sheet_72 0 rfl (tk_gr G kX8 dX8_sheet_73 wF_X8_46 k0 gR_8_5 (tk_iload_n G dX8_sheet_76 1 rfl k))) ?_
          refine s_aaldS G dX8_sheet_77 (kF_8_5 k0) (fun b77 kb77 => ?_)
          refine s_v (fun _ k => tk_gi G kX6 dX8_sheet_78 wF_X8_247 kb77 gI_6_1 k) ?_
          exact s_iret G dX8_sheet_81
        ·
          refine s_v (fun _ k => tk_aload_n G dX8_sheet_54 0 rfl (tk_ldc G dX8_sheet_55 wK_X8_59 k)) ?_
          refine s_callVI (As := [.int (-100001)]) G dX8_sheet_57 wY_X8_finding wM_X8_60 wI_X8_finding wS_X8_finding (tk_rm hR (by decide) (by decide)) kX8 k0 (by decide) (c_X8_finding E g37 a0 (-100001) k0) rfl rfl (Nat.le_of_ble_eq_true rfl) ⟨Nat.zero_le _, Nat.zero_le _⟩ (fun x57 => ?_)
          exact s_iret G dX8_sheet_60
      ·
        refine s_v (fun _ k => tk_aload_n G dX8_sheet_41 0 rfl (tk_ldc G dX8_sheet_42 wK_X8_148 k)) ?_
        refine s_callVI (As := [.int (-100003)]) G dX8_sheet_44 wY_X8_finding wM_X8_60 wI_X8_finding wS_X8_finding (tk_rm hR (by decide) (by decide)) kX8 k0 (by decide) (c_X8_finding E g37 a0 (-100003) k0) rfl rfl (Nat.le_of_ble_eq_true rfl) ⟨Nat.zero_le _, Nat.zero_le _⟩ (fun x44 => ?_)
        exact s_iret G dX8_sheet_47
    refine s_if_eq (tgt := 37) G dX8_sheet_9 (by decide) (fun q9 => ?_) (fun q9 => ?_)
    ·
      exact hJ37 _
    ·
      refine s_v (fun _ k => tk_iload_n G dX8_sheet_12 2 rfl (tk_bipush G dX8_sheet_13 cB_8 k)) ?_
      refine s_icmp_eq (tgt := 37) G dX8_sheet_15 (by decide) (fun q15 => ?_) (fun q15 => ?_)
      ·
        exact hJ37 _
      ·
        refine s_v (fun _ k => tk_iload_n G dX8_sheet_18 2 rfl (tk_bipush G dX8_sheet_19 cB_16 k)) ?_
        refine s_icmp_eq (tgt := 37) G dX8_sheet_21 (by decide) (fun q21 => ?_) (fun q21 => ?_)
        ·
          exact hJ37 _
        ·
          refine s_v (fun _ k => tk_iload_n G dX8_sheet_24 2 rfl (tk_bipush G dX8_sheet_25 cB_32 k)) ?_
          refine s_icmp_eq (tgt := 37) G dX8_sheet_27 (by decide) (fun q27 => ?_) (fun q27 => ?_)
          ·
            exact hJ37 _
          ·
            refine s_sub [0] (al' := [(0, .ref (e_ad E a0))]) rfl ?_
            exact hJ30 _
theorem c_X8_sheet (E : tkE) (h : tkH) (a0 : Nat) (a1 : Int32) (a2 : Int32) (a3 : Int32) (k0 : kd a0 = 11) : ∀ x, f_X8_sheet h a0 a1 a2 a3 = some x → tkM E yX8_sheet cX8_sheet 4 (some .int) 2 tkF [.ref (e_ad E a0), .int a1, .int a2, .int a3] h (some (.int x.1)) x.2 := fun x hx => tkM_of (by decide) (Nat.le_of_ble_eq_true rfl) (fun _ hR G => w_X8_sheet hR G h a0 a1 a2 a3 k0 x hx)
