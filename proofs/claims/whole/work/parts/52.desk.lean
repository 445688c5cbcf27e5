/-! TaleDesk() -/
theorem f1 : fS 1 = (3, 9, [none, some (some 2), some (some 3), some (some 4), some (some 5), some (some 6), some (some 7), some (some 8), some (some 9)]) := by decide +kernel
theorem f2 : fS 2 = (0, 10, []) := by decide +kernel
theorem f3 : fS 3 = (0, 10, []) := by decide +kernel
theorem f4 : fS 4 = (0, 10, []) := by decide +kernel
theorem f5 : fS 5 = (0, 10, []) := by decide +kernel
theorem f6 : fS 6 = (0, 10, []) := by decide +kernel
theorem f7 : fS 7 = (0, 100, []) := by decide +kernel
theorem f8 : fS 8 = (0, 3, []) := by decide +kernel
theorem f9 : fS 9 = (0, 36, []) := by decide +kernel
theorem f202 : fS 202 = (10, 4, [some (some 203), some (some 204), none, none]) := by decide +kernel
theorem f203 : fS 203 = (0, 10, []) := by decide +kernel
theorem f204 : fS 204 = (0, 10, []) := by decide +kernel
theorem g205 : fS 205 = (4, 5, [some (some 206), some (some 207), none, none, none]) := by decide +kernel
theorem f206 : fS 206 = (0, 4, []) := by decide +kernel
theorem f207 : fS 207 = (0, 4, []) := by decide +kernel
theorem fS0 : ∀ i, 0 ≤ i → fS i = fS i := fun _ _ => rfl
def desH (h : tkH) : tkH := tkup (flh (hisH 20 (bkh h 1)) 201 100 (-1)) 0 6 0
theorem c_des (E : tkE) {h : tkH} (hW : wfS 1 (oS fS 0 (11, 7, [some none, some none, some none, some none, some none, some none, none]))) (hz : hz0 1 h) : tkMN E [RX0, RX6] yX8_init cX8_init 2 4 216 4633 1 (oS fS 0 (11, 7, [some none, some none, some none, some none, some none, some none, none])) h 0 [] 217 fS (desH h) := by
  refine tkMN_of (As := fun _ => []) (by decide) rfl (fun _ => Nat.le_of_ble_eq_true rfl) hW hz (fun X hR hi hQ G => ?_)
  have G : tkG E X cX8_init 2 RX8 none := G
  have qB : aoQ [RX0] (x_s X) := fun C hC => hQ C (by rw [List.mem_singleton.mp hC]; exact List.mem_cons_self)
  have h3d : ∃ h3, h3 = flh (hisH 20 (bkh h 1)) 201 100 (-1) := ⟨_, rfl⟩
  obtain ⟨h3, e3⟩ := h3d
  have loop : ∀ m i, m + i = 4 → tkJ 1 E X 2 (208 + 2 * i) (4501 + 33 * i) (tkZN E X 1 217 fS (desH h) 216 4633) 69 (fun ad => [(1, .int (nI i)), (0, .ref (ad 0))]) (fun _ => []) (209 + 2 * i) (oS fS 208 (2, 4, rsS i)) h3 := by
    intro m
    induction m with
    | zero =>
      intro i hi0
      have ei : i = 4 := by omega
      subst ei
      refine J_il (x := nI 4) G dX8_init_69 0 (fun _ => rfl) ?_
      refine J_ic (v := nI 4) G dX8_init_70 (by decide) ?_
      refine J_ge (tgt := 93) G dX8_init_71 rfl (fun _ => ?_) (fun q => absurd (by decide) q)
      rw [oS_id f208]
      refine J_al (k := 0) G dX8_init_93 1 (fun _ => rfl) ?_
      refine J_ic (v := 0) G dX8_init_94 (by decide) ?_
      refine J_pi (j := 6) (k := 0) G kX8 dX8_init_95 wF_X8_51 (by decide) (by omega) f0 rfl rfl (tyX8_ok 6 (by decide)) ?_
      have eh : tkup h3 0 6 0 = desH h := by rw [e3]; rfl
      rw [eh]
      exact J_vret G dX8_init_98 (by decide) (by decide)
    | succ m ih =>
      intro i hi0
      have hi4 : i < 4 := by omega
      obtain ⟨b0, b1⟩ := fH hi4
      have sj : ∀ v j, 209 ≤ j → oS fS 208 v j = fS j := fun v j hj => by rw [oS_n (by omega)]
      have z := ih (i + 1) (by omega)
      rw [show 208 + 2 * (i + 1) = 208 + 2 * i + 1 + 1 by omega, show 4501 + 33 * (i + 1) = 4501 + 33 * i + 3 + 30 by omega, show 209 + 2 * (i + 1) = 209 + 2 * i + 2 by omega] at z
      refine J_il (x := nI i) G dX8_init_69 0 (fun _ => rfl) ?_
      refine J_ic (v := nI 4) G dX8_init_70 (by decide) ?_
      refine J_ge (tgt := 93) G dX8_init_71 rfl (fun q => absurd ((nI_leI (by omega) (by omega)).mp q) (by omega)) (fun _ => ?_)
      refine J_al (k := 0) G dX8_init_74 1 (fun _ => rfl) ?_
      refine J_gr (j := 5) (k := 0) (m := 208) G kX8 dX8_init_75 wF_X8_46 (by decide) (by omega) (by rw [oS_n (by decide), f0]) rfl ?_
      refine J_il (x := nI i) G dX8_init_78 0 (fun _ => rfl) ?_
      refine J_nw (rs := [none, none, some none]) G kX6 dX8_init_79 wN_844 dfX6 (nR rfl) (rmC hR ⟨by omega, by omega⟩) (by omega) (fun ad ad' e => by simp only [e 0 (by omega)]) (fun ad ad' e => by simp only [e 208 (by omega)]) ?_
      refine J_dup G dX8_init_82 ?_
      refine J_cn (b := 209 + 2 * i) (n' := 209 + 2 * i + 2) (S' := oS fS 208 (2, 4, rsS i)) (h' := h3) (As := fun _ => []) (st := fun ad => [.ref (ad (209 + 2 * i)), .int (nI i), .ref (ad 208)]) G dX8_init_83 wY_X6_init rfl wM_X8_50 wI_X6_init aoQ_0 (rmF hR (by decide) (by decide)) (fun w1 z1 ad _ => c_sht (eAd E ad) (k := 209 + 2 * i) w1 z1 ((sj _ _ (by omega)).trans b0) ((sj _ _ (by omega)).trans b1)) (fun _ => rfl) (fun _ => rfl) (fun _ => Nat.le_of_ble_eq_true rfl) (rmC hR ⟨by omega, by omega⟩) (by omega) (fun ad ad' e => by simp only [e 0 (by omega)]) (fun ad ad' e => by simp only [e 208 (by omega), e (209 + 2 * i) (by omega)]) (fun w1 => wf_close w1 (by omega) (fun j hj hl a ha => ?_)) (hz_id (by omega)) ?_
      · rw [sj _ j (by omega)] at ha
        have hc : j = 209 + 2 * i ∨ j = 209 + 2 * i + 1 := by omega
        unfold rfs at ha
        rcases hc with e | e <;> rw [e] at ha
        · rw [b0] at ha
          simp at ha
          omega
        · rw [b1] at ha; cases ha
      · refine J_aaS (k := 208) (m := 209 + 2 * i) (i := i) (N := 4) (rs := rsS i) G dX8_init_86 (by omega) (by omega) oS_s ((sj _ _ (by omega)).trans b0) (rsS_l i) hi4 (by decide) ?_
        rw [oS_oS, ← rsS_s]
        refine J_ii (v := nI (i + 1)) (al' := fun ad => [(1, .int (nI (i + 1))), (0, .ref (ad 0))]) G dX8_init_87 0 (fun _ => rfl) (by rw [ci_1, nI_1]) (by decide) (fun _ => rfl) ?_
        refine J_go (tgt := 69) G dX8_init_90 rfl ?_
        exact z
  refine J_al (k := 0) G dX8_init_0 0 (fun _ => rfl) ?_
  refine J_obj G dX8_init_1 wOb8 (rm1 hR (by decide)) ?_
  refine J_al (k := 0) G dX8_init_4 0 (fun _ => rfl) ?_
  refine J_nw (rs := [none, some none, some none, some none, some none, some none, some none, some none, some none]) G kX0 dX8_init_5 wN_87 dfX0 (nR rfl) (rmC hR (by decide)) (by omega) (kp_a1 (by omega)) (kp_s1 (by omega)) ?_
  refine J_dup G dX8_init_8 ?_
  refine J_cn (b := 1) (n' := 10) (S' := oS fS 0 (11, 7, [some none, some none, some none, some none, some none, some none, none])) (h' := bkh h 1) (As := fun _ => []) (st := fun ad => [.ref (ad 1), .ref (ad 0)]) G dX8_init_9 wY_X0_init rfl wM_X8_9 wI_X0_init aoQ_0 (rmF hR (by decide) (by decide)) (fun w1 z1 ad _ => c_book (eAd E ad) (k := 1) w1 z1 ((oS_i (i := 1) fS0 (by decide)).trans f1) ((oS_i (i := 2) fS0 (by decide)).trans f2) ((oS_i (i := 3) fS0 (by decide)).trans f3) ((oS_i (i := 4) fS0 (by decide)).trans f4) ((oS_i (i := 5) fS0 (by decide)).trans f5) ((oS_i (i := 6) fS0 (by decide)).trans f6) ((oS_i (i := 7) fS0 (by decide)).trans f7) ((oS_i (i := 8) fS0 (by decide)).trans f8) ((oS_i (i := 9) fS0 (by decide)).trans f9)) (fun _ => rfl) (fun _ => rfl) (fun _ => Nat.le_of_ble_eq_true rfl) (rmC hR (by decide)) (by omega) (kp_a1 (by omega)) (fun ad ad' e => by simp only [e 0 (by omega), e 1 (by omega)]) (fun w1 => wf_closeF w1 (by omega) (by omega) (oS_ge fS0 (by decide)) (by decide +kernel)) (fun q j hj => by rw [bkh_o (by omega)]; exact q j (by omega)) ?_
  refine J_pr (j := 0) (m := 1) (k := 0) (ty := tyX8 0) G hi kX8 dX8_init_12 wF_X8_10 (by decide) (by omega) (by omega) oS_s (Nat.le_of_ble_eq_true rfl) rfl rfl (tyX8_ok 0 (by decide)) (fun _ => ⟨rfl, rfl⟩) ?_
  rw [oS_oS]
  refine J_al (k := 0) G dX8_init_15 0 (fun _ => rfl) ?_
  refine J_nw (rs := [some none, none, none]) G kX3 dX8_init_16 wN_816 dfX3 (nR rfl) (rmC hR (by decide)) (by omega) (kp_a1 (by omega)) (kp_s1 (by omega)) ?_
  refine J_dup G dX8_init_19 ?_
  refine J_ci (b := 10) (n' := 192) (S' := oS fS 0 (11, 7, [some (some 1), some none, some none, some none, some none, some none, none])) (h' := hisH 20 (bkh h 1)) (As := fun _ => []) (st := fun ad => [.ref (ad 10), .ref (ad 0)]) G dX8_init_20 wY_X3_init rfl wM_X8_18 wI_X3_init qB (rmF hR (by decide) (by decide)) (fun w1 z1 ad _ => c_his (eAd E ad) w1 z1 (oS_ge fS0 (by decide))) (fun _ => rfl) (fun _ => rfl) (fun _ => Nat.le_of_ble_eq_true rfl) (rmC hR (by decide)) (by omega) (kp_a1 (by omega)) (fun ad ad' e => by simp only [e 0 (by omega), e 10 (by omega)]) (fun w1 => wf_closeF w1 (by omega) (by omega) (oS_ge fS0 (by decide)) (by decide +kernel)) (fun q j hj => by rw [hisH_o (by omega) 20 (by omega)]; exact q j (by omega)) ?_
  refine J_pr (j := 1) (m := 10) (k := 0) (ty := tyX8 1) G hi kX8 dX8_init_23 wF_X8_19 (by decide) (by omega) (by omega) oS_s (Nat.le_of_ble_eq_true rfl) rfl rfl (tyX8_ok 1 (by decide)) (fun _ => ⟨rfl, rfl⟩) ?_
  rw [oS_oS]
  refine J_al (k := 0) G dX8_init_26 0 (fun _ => rfl) ?_
  refine J_nw (rs := [some none, some none]) G kX2 dX8_init_27 wN_823 dfX2 (nR rfl) (rmC hR (by decide)) (by omega) (kp_a1 (by omega)) (kp_s1 (by omega)) ?_
  refine J_dup G dX8_init_30 ?_
  refine J_ci (b := 192) (n' := 202) (S' := oS fS 0 (11, 7, [some (some 1), some (some 10), some none, some none, some none, some none, none])) (h' := flh (hisH 20 (bkh h 1)) 201 100 (-1)) (As := fun _ => []) (st := fun ad => [.ref (ad 192), .ref (ad 0)]) G dX8_init_31 wY_X2_init rfl wM_X8_25 wI_X2_init aoQ_0 (rmF hR (by decide) (by decide)) (fun w1 z1 ad _ => c_cst (eAd E ad) w1 z1 (oS_ge fS0 (by decide))) (fun _ => rfl) (fun _ => rfl) (fun _ => Nat.le_of_ble_eq_true rfl) (rmC hR (by decide)) (by omega) (kp_a1 (by omega)) (fun ad ad' e => by simp only [e 0 (by omega), e 192 (by omega)]) (fun w1 => wf_closeF w1 (by omega) (by omega) (oS_ge fS0 (by decide)) (by decide +kernel)) (fun q j hj => by unfold flh; rw [if_neg (by omega)]; exact q j (by omega)) ?_
  refine J_pr (j := 2) (m := 192) (k := 0) (ty := tyX8 2) G hi kX8 dX8_init_34 wF_X8_26 (by decide) (by omega) (by omega) oS_s (Nat.le_of_ble_eq_true rfl) rfl rfl (tyX8_ok 2 (by decide)) (fun _ => ⟨rfl, rfl⟩) ?_
  rw [oS_oS]
  rw [← e3]
  refine J_al (k := 0) G dX8_init_37 0 (fun _ => rfl) ?_
  refine J_nw (rs := [some none, some none, none, none]) G kX7 dX8_init_38 wN_830 dfX7 (nR rfl) (rmC hR (by decide)) (by omega) (kp_a1 (by omega)) (kp_s1 (by omega)) ?_
  refine J_dup G dX8_init_41 ?_
  refine J_cn (b := 202) (n' := 205) (S' := oS fS 0 (11, 7, [some (some 1), some (some 10), some (some 192), some none, some none, some none, none])) (h' := h3) (As := fun _ => []) (st := fun ad => [.ref (ad 202), .ref (ad 0)]) G dX8_init_42 wY_X7_init rfl wM_X8_32 wI_X7_init aoQ_0 (rmF hR (by decide) (by decide)) (fun w1 z1 ad _ => c_tre (eAd E ad) (k := 202) w1 z1 ((oS_i (i := 202) fS0 (by decide)).trans f202) ((oS_i (i := 203) fS0 (by decide)).trans f203) ((oS_i (i := 204) fS0 (by decide)).trans f204)) (fun _ => rfl) (fun _ => rfl) (fun _ => Nat.le_of_ble_eq_true rfl) (rmC hR (by decide)) (by omega) (kp_a1 (by omega)) (fun ad ad' e => by simp only [e 0 (by omega), e 202 (by omega)]) (fun w1 => wf_closeF w1 (by omega) (by omega) (oS_ge fS0 (by decide)) (by decide +kernel)) (hz_id (by omega)) ?_
  refine J_pr (j := 3) (m := 202) (k := 0) (ty := tyX8 3) G hi kX8 dX8_init_45 wF_X8_33 (by decide) (by omega) (by omega) oS_s (Nat.le_of_ble_eq_true rfl) rfl rfl (tyX8_ok 3 (by decide)) (fun _ => ⟨rfl, rfl⟩) ?_
  rw [oS_oS]
  refine J_al (k := 0) G dX8_init_48 0 (fun _ => rfl) ?_
  refine J_nw (rs := [some none, some none, none, none, none]) G kX1 dX8_init_49 wN_837 dfX1 (nR rfl) (rmC hR (by decide)) (by omega) (kp_a1 (by omega)) (kp_s1 (by omega)) ?_
  refine J_dup G dX8_init_52 ?_
  refine J_cn (b := 205) (n' := 208) (S' := oS fS 0 (11, 7, [some (some 1), some (some 10), some (some 192), some (some 202), some none, some none, none])) (h' := h3) (As := fun _ => []) (st := fun ad => [.ref (ad 205), .ref (ad 0)]) G dX8_init_53 wY_X1_init rfl wM_X8_39 wI_X1_init aoQ_0 (rmF hR (by decide) (by decide)) (fun w1 z1 ad _ => c_bor (eAd E ad) (k := 205) w1 z1 ((oS_i (i := 205) fS0 (by decide)).trans g205) ((oS_i (i := 206) fS0 (by decide)).trans f206) ((oS_i (i := 207) fS0 (by decide)).trans f207)) (fun _ => rfl) (fun _ => rfl) (fun _ => Nat.le_of_ble_eq_true rfl) (rmC hR (by decide)) (by omega) (kp_a1 (by omega)) (fun ad ad' e => by simp only [e 0 (by omega), e 205 (by omega)]) (fun w1 => wf_closeF w1 (by omega) (by omega) (oS_ge fS0 (by decide)) (by decide +kernel)) (hz_id (by omega)) ?_
  refine J_pr (j := 4) (m := 205) (k := 0) (ty := tyX8 4) G hi kX8 dX8_init_56 wF_X8_40 (by decide) (by omega) (by omega) oS_s (Nat.le_of_ble_eq_true rfl) rfl rfl (tyX8_ok 4 (by decide)) (fun _ => ⟨rfl, rfl⟩) ?_
  rw [oS_oS]
  refine J_al (k := 0) G dX8_init_59 0 (fun _ => rfl) ?_
  refine J_ic (v := nI 4) G dX8_init_60 (by decide) ?_
  refine J_nqS (N := 4) G dX8_init_61 rfl (by decide) wN_844.1 (hQ RX6 (List.mem_cons_of_mem _ List.mem_cons_self)) (rmC hR (by decide)) (by omega) (kp_a1 (by omega)) (kp_s1 (by omega)) ?_
  refine J_pr (j := 5) (m := 208) (k := 0) (ty := tyX8 5) G hi kX8 dX8_init_64 wF_X8_46 (by decide) (by omega) (by omega) (by rw [oS_n (by decide), oS_s]) (Nat.le_of_ble_eq_true rfl) rfl rfl (tyX8_ok 5 (by decide)) (fun _ => ⟨rfl, rfl⟩) ?_
  have eF : oS (oS (oS fS 0 (11, 7, [some (some 1), some (some 10), some (some 192), some (some 202), some (some 205), some none, none])) 208 (2, 4, [])) 0 (11, 7, [some (some 1), some (some 10), some (some 192), some (some 202), some (some 205), some (some 208), none]) = oS fS 208 (2, 4, []) := oS_cl f0 (by decide)
  have R : tkJ 1 E X 2 208 4501 (tkZN E X 1 217 fS (desH h) 216 4633) 67 (fun ad => [(0, .ref (ad 0))]) (fun _ => []) 209 (oS (oS (oS fS 0 (11, 7, [some (some 1), some (some 10), some (some 192), some (some 202), some (some 205), some none, none])) 208 (2, 4, [])) 0 (11, 7, [some (some 1), some (some 10), some (some 192), some (some 202), some (some 205), some (some 208), none])) h3 := by
    rw [eF]
    refine J_ic (v := 0) G dX8_init_67 (by decide) ?_
    refine J_is (al' := fun ad => [(1, .int (nI 0)), (0, .ref (ad 0))]) G dX8_init_68 (by decide) (fun _ => rfl) ?_
    exact loop 4 0 (by omega)
  exact R
