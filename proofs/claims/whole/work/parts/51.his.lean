/-! History(), TaleDesk() -/
def rsB (i : Nat) : List (Option (Option Nat)) := (List.range i).map (fun j => some (some (12 + 9 * j)))
theorem rsB_s (i : Nat) : rsB (i + 1) = rsB i ++ [some (some (12 + 9 * i))] := by simp [rsB, List.range_succ]
theorem rsB_l (i : Nat) : (rsB i).length = i := by simp [rsB]
def rsS (i : Nat) : List (Option (Option Nat)) := (List.range i).map (fun j => some (some (209 + 2 * j)))
theorem rsS_s (i : Nat) : rsS (i + 1) = rsS i ++ [some (some (209 + 2 * i))] := by simp [rsS, List.range_succ]
theorem rsS_l (i : Nat) : (rsS i).length = i := by simp [rsS]
theorem f10 : fS 10 = (6, 3, [some (some 11), none, none]) := by decide +kernel
theorem f11 : fS 11 = (1, 20, rsB 20) := by decide +kernel
theorem f208 : fS 208 = (2, 4, rsS 4) := by decide +kernel
theorem f0 : fS 0 = (11, 7, [some (some 1), some (some 10), some (some 192), some (some 202), some (some 205), some (some 208), none]) := by decide +kernel
theorem fB_b : ((List.range 20).all fun j => decide (fS (12 + 9 * j) = (3, 9, [none, some (some (12 + 9 * j + 1)), some (some (12 + 9 * j + 2)), some (some (12 + 9 * j + 3)), some (some (12 + 9 * j + 4)), some (some (12 + 9 * j + 5)), some (some (12 + 9 * j + 6)), some (some (12 + 9 * j + 7)), some (some (12 + 9 * j + 8))])) && decide (fS (12 + 9 * j + 1) = (0, 10, [])) && decide (fS (12 + 9 * j + 2) = (0, 10, [])) && decide (fS (12 + 9 * j + 3) = (0, 10, [])) && decide (fS (12 + 9 * j + 4) = (0, 10, [])) && decide (fS (12 + 9 * j + 5) = (0, 10, [])) && decide (fS (12 + 9 * j + 6) = (0, 100, [])) && decide (fS (12 + 9 * j + 7) = (0, 3, [])) && decide (fS (12 + 9 * j + 8) = (0, 36, []))) = true := by decide +kernel
theorem fB {j : Nat} (hj : j < 20) : fS (12 + 9 * j) = (3, 9, [none, some (some (12 + 9 * j + 1)), some (some (12 + 9 * j + 2)), some (some (12 + 9 * j + 3)), some (some (12 + 9 * j + 4)), some (some (12 + 9 * j + 5)), some (some (12 + 9 * j + 6)), some (some (12 + 9 * j + 7)), some (some (12 + 9 * j + 8))]) ∧ fS (12 + 9 * j + 1) = (0, 10, []) ∧ fS (12 + 9 * j + 2) = (0, 10, []) ∧ fS (12 + 9 * j + 3) = (0, 10, []) ∧ fS (12 + 9 * j + 4) = (0, 10, []) ∧ fS (12 + 9 * j + 5) = (0, 10, []) ∧ fS (12 + 9 * j + 6) = (0, 100, []) ∧ fS (12 + 9 * j + 7) = (0, 3, []) ∧ fS (12 + 9 * j + 8) = (0, 36, []) := by
  have h := List.all_eq_true.mp fB_b j (List.mem_range.mpr hj)
  simp only [Bool.and_eq_true, decide_eq_true_eq] at h
  obtain ⟨⟨⟨⟨⟨⟨⟨⟨h0, h1⟩, h2⟩, h3⟩, h4⟩, h5⟩, h6⟩, h7⟩, h8⟩ := h
  exact ⟨h0, h1, h2, h3, h4, h5, h6, h7, h8⟩
theorem fH_b : ((List.range 4).all fun j => decide (fS (209 + 2 * j) = (9, 3, [none, none, some (some (209 + 2 * j + 1))])) && decide (fS (209 + 2 * j + 1) = (0, 30, []))) = true := by decide +kernel
theorem fH {j : Nat} (hj : j < 4) : fS (209 + 2 * j) = (9, 3, [none, none, some (some (209 + 2 * j + 1))]) ∧ fS (209 + 2 * j + 1) = (0, 30, []) := by
  have h := List.all_eq_true.mp fH_b j (List.mem_range.mpr hj)
  simp only [Bool.and_eq_true, decide_eq_true_eq] at h
  exact h
theorem oS_cl {S : Nat → tkK} {k m : Nat} {v o f : tkK} (hf : S k = f) (hne : k ≠ m) : oS (oS (oS S k o) m v) k f = oS S m v := by
  funext j
  unfold oS
  by_cases c : j = k
  · rw [if_pos c, c, if_neg hne, hf]
  · rw [if_neg c, if_neg c]
def hisH : Nat → tkH → tkH
  | 0, h => h
  | i + 1, h => bkh (hisH i h) (12 + 9 * i)
theorem bkh_o {h : tkH} {k q : Nat} (e : q ≠ k + 7) : bkh h k q = h q := by
  unfold bkh
  rw [up_a e, up_a e, up_a e]
theorem hisH_o {h : tkH} {q : Nat} (e : q < 12 ∨ 192 ≤ q) : ∀ i, i ≤ 20 → hisH i h q = h q
  | 0, _ => rfl
  | i + 1, hi => by
    show bkh (hisH i h) (12 + 9 * i) q = h q
    rw [bkh_o (by omega)]
    exact hisH_o e i (by omega)
theorem c_his (E : tkE) {S : Nat → tkK} {h : tkH} (hW : wfS 11 (oS S 10 (6, 3, [some none, none, none]))) (hz : hz0 11 h) (hS : ∀ i, 10 ≤ i → S i = fS i) : tkMN E [RX0] yX3_init cX3_init 2 2 181 3980 11 (oS S 10 (6, 3, [some none, none, none])) h 10 [] 192 S (hisH 20 h) := by
  refine tkMN_of (As := fun _ => []) (by decide) rfl (fun _ => Nat.le_of_ble_eq_true rfl) hW hz (fun X hR hi hQ G => ?_)
  have G : tkG E X cX3_init 2 RX3 none := G
  have s10 : ∀ v, oS S 11 v 10 = (6, 3, [some (some 11), none, none]) := fun v => by rw [oS_n (by decide), hS 10 (by omega), f10]
  have loop : ∀ m i, m + i = 20 → tkJ 11 E X 2 (1 + 9 * i) (20 + 198 * i) (tkZN E X 11 192 S (hisH 20 h) 181 3980) 15 (fun ad => [(1, .int (nI i)), (0, .ref (ad 10))]) (fun _ => []) (12 + 9 * i) (oS S 11 (1, 20, rsB i)) (hisH i h) := by
    intro m
    induction m with
    | zero =>
      intro i hi0
      have ei : i = 20 := by omega
      subst ei
      refine J_il (x := nI 20) G dX3_init_15 0 (fun _ => rfl) ?_
      refine J_bi (v := nI 20) G dX3_init_16 (by decide) ?_
      refine J_ge (tgt := 40) G dX3_init_18 rfl (fun _ => ?_) (fun q => absurd (by decide) q)
      rw [oS_id ((hS 11 (by omega)).trans f11)]
      exact J_vret G dX3_init_40 (by decide) (by decide)
    | succ m ih =>
      intro i hi0
      have hi20 : i < 20 := by omega
      obtain ⟨b0, b1, b2, b3, b4, b5, b6, b7, b8⟩ := fB hi20
      have sj : ∀ v j, 12 ≤ j → oS S 11 v j = fS j := fun v j hj => by rw [oS_n (by omega), hS j (by omega)]
      have z := ih (i + 1) (by omega)
      rw [show 1 + 9 * (i + 1) = 1 + 9 * i + 1 + 8 by omega, show 20 + 198 * (i + 1) = 20 + 198 * i + 9 + 189 by omega, show 12 + 9 * (i + 1) = 12 + 9 * i + 9 by omega] at z
      refine J_il (x := nI i) G dX3_init_15 0 (fun _ => rfl) ?_
      refine J_bi (v := nI 20) G dX3_init_16 (by decide) ?_
      refine J_ge (tgt := 40) G dX3_init_18 rfl (fun q => absurd ((nI_leI (by omega) (by omega)).mp q) (by omega)) (fun _ => ?_)
      refine J_al (k := 10) G dX3_init_21 1 (fun _ => rfl) ?_
      refine J_gr (j := 0) (k := 10) (m := 11) G kX3 dX3_init_22 wF_X3_11 (by decide) (by omega) (s10 _) rfl ?_
      refine J_il (x := nI i) G dX3_init_25 0 (fun _ => rfl) ?_
      refine J_nw (rs := [none, some none, some none, some none, some none, some none, some none, some none, some none]) G kX0 dX3_init_26 wN_39 dfX0 (nR rfl) (rmC hR ⟨by omega, by omega⟩) (by omega) (fun ad ad' e => by simp only [e 10 (by omega)]) (fun ad ad' e => by simp only [e 11 (by omega)]) ?_
      refine J_dup G dX3_init_29 ?_
      refine J_cn (b := 12 + 9 * i) (n' := 12 + 9 * i + 9) (S' := oS S 11 (1, 20, rsB i)) (h' := bkh (hisH i h) (12 + 9 * i)) (As := fun _ => []) (st := fun ad => [.ref (ad (12 + 9 * i)), .int (nI i), .ref (ad 11)]) G dX3_init_30 wY_X0_init rfl wM_X3_17 wI_X0_init aoQ_0 (rmF hR (by decide) (by decide)) (fun w1 z1 ad _ => c_book (eAd E ad) (k := 12 + 9 * i) w1 z1 ((sj _ _ (by omega)).trans b0) ((sj _ _ (by omega)).trans b1) ((sj _ _ (by omega)).trans b2) ((sj _ _ (by omega)).trans b3) ((sj _ _ (by omega)).trans b4) ((sj _ _ (by omega)).trans b5) ((sj _ _ (by omega)).trans b6) ((sj _ _ (by omega)).trans b7) ((sj _ _ (by omega)).trans b8)) (fun _ => rfl) (fun _ => rfl) (fun _ => Nat.le_of_ble_eq_true rfl) (rmC hR ⟨by omega, by omega⟩) (by omega) (fun ad ad' e => by simp only [e 10 (by omega)]) (fun ad ad' e => by simp only [e 11 (by omega), e (12 + 9 * i) (by omega)]) (fun w1 => wf_close w1 (by omega) (fun j hj hl a ha => ?_)) (fun q j hj => by rw [bkh_o (by omega)]; exact q j (by omega)) ?_
      · rw [sj _ j (by omega)] at ha
        have hc : j = 12 + 9 * i ∨ j = 12 + 9 * i + 1 ∨ j = 12 + 9 * i + 2 ∨ j = 12 + 9 * i + 3 ∨ j = 12 + 9 * i + 4 ∨ j = 12 + 9 * i + 5 ∨ j = 12 + 9 * i + 6 ∨ j = 12 + 9 * i + 7 ∨ j = 12 + 9 * i + 8 := by omega
        unfold rfs at ha
        rcases hc with e | e | e | e | e | e | e | e | e <;> rw [e] at ha
        · rw [b0] at ha
          simp at ha
          omega
        · rw [b1] at ha; cases ha
        · rw [b2] at ha; cases ha
        · rw [b3] at ha; cases ha
        · rw [b4] at ha; cases ha
        · rw [b5] at ha; cases ha
        · rw [b6] at ha; cases ha
        · rw [b7] at ha; cases ha
        · rw [b8] at ha; cases ha
      · refine J_aaB (k := 11) (m := 12 + 9 * i) (i := i) (N := 20) (rs := rsB i) G dX3_init_33 (by omega) (by omega) oS_s ((sj _ _ (by omega)).trans b0) (rsB_l i) hi20 (by decide) ?_
        rw [oS_oS, ← rsB_s]
        refine J_ii (v := nI (i + 1)) (al' := fun ad => [(1, .int (nI (i + 1))), (0, .ref (ad 10))]) G dX3_init_34 0 (fun _ => rfl) (by rw [ci_1, nI_1]) (by decide) (fun _ => rfl) ?_
        refine J_go (tgt := 15) G dX3_init_37 rfl ?_
        exact z
  refine J_al (k := 10) G dX3_init_0 0 (fun _ => rfl) ?_
  refine J_obj G dX3_init_1 wOb3 (rm1 hR (by decide)) ?_
  refine J_al (k := 10) G dX3_init_4 0 (fun _ => rfl) ?_
  refine J_bi (v := nI 20) G dX3_init_5 (by decide) ?_
  refine J_nqB (N := 20) G dX3_init_7 rfl (by decide) wN_39.1 (hQ RX0 (List.mem_singleton.mpr rfl)) (rmC hR (by decide)) (by omega) (kp_a1 (by omega)) (kp_s1 (by omega)) ?_
  refine J_pr (j := 0) (m := 11) (k := 10) (ty := tyX3 0) G hi kX3 dX3_init_10 wF_X3_11 (by decide) (by omega) (by omega) (by rw [oS_n (by decide), oS_s]) (Nat.le_of_ble_eq_true rfl) rfl rfl (tyX3_ok 0 (by decide)) (fun _ => ⟨rfl, rfl⟩) ?_
  have eF : oS (oS (oS S 10 (6, 3, [some none, none, none])) 11 (1, 20, [])) 10 (6, 3, [some (some 11), none, none]) = oS S 11 (1, 20, []) := oS_cl ((hS 10 (by omega)).trans f10) (by decide)
  have R : tkJ 11 E X 2 1 20 (tkZN E X 11 192 S (hisH 20 h) 181 3980) 13 (fun ad => [(0, .ref (ad 10))]) (fun _ => []) 12 (oS (oS (oS S 10 (6, 3, [some none, none, none])) 11 (1, 20, [])) 10 (6, 3, [some (some 11), none, none])) h := by
    rw [eF]
    refine J_ic (v := 0) G dX3_init_13 (by decide) ?_
    refine J_is (al' := fun ad => [(1, .int (nI 0)), (0, .ref (ad 10))]) G dX3_init_14 (by decide) (fun _ => rfl) ?_
    exact loop 20 0 (by omega)
  exact R
