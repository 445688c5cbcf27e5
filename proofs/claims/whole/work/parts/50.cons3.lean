/-! constructors that make others -/
def bdT (lo hi n' : Nat) : Bool := (List.range hi).all fun i => decide (i < lo) || (fS i).2.2.all fun r => match r with
  | some (some a) => decide (a < n')
  | _ => true
theorem bndR {lo hi n' : Nat} (h : bdT lo hi n' = true) : ∀ i, lo ≤ i → i < hi → ∀ a, rfs (fS i) a → a < n' := by
  intro i h1 h2 a ha
  have q := List.all_eq_true.mp h i (List.mem_range.mpr h2)
  rw [Bool.or_eq_true] at q
  rcases q with q | q
  · have := of_decide_eq_true q
    omega
  · exact of_decide_eq_true (List.all_eq_true.mp q _ ha)
theorem wf_closeF {n n' k : Nat} {S : Nat → tkK} {v : tkK} (h : wfS n (oS S k v)) (hn : n ≤ n') (hk : k < n) (hS : ∀ i, k ≤ i → S i = fS i) (hb : bdT k n' n' = true) : wfS n' S :=
  wf_close h hn (fun i hi hl a ha => bndR hb i (by omega) hl a (by rw [← hS i (by omega)]; exact ha))
theorem oS_i {S : Nat → tkK} {k i : Nat} {v : tkK} (hS : ∀ i, k ≤ i → S i = fS i) (h : k < i) : oS S k v i = fS i := (oS_n (by omega)).trans (hS i (by omega))
theorem oS_ge {S : Nat → tkK} {k m : Nat} {v : tkK} (hS : ∀ i, k ≤ i → S i = fS i) (h : k < m) : ∀ i, m ≤ i → oS S k v i = fS i := fun i hi => (oS_n (by omega)).trans (hS i (by omega))
theorem dfX0 : ∀ j, j < 9 → (parseFieldDescriptor (TX0 j).2.2.1).map defaultValue = some (match ([none, some none, some none, some none, some none, some none, some none, some none, some none] : List (Option (Option Nat))).getD j none with | none => .int 0 | some _ => .null) := by decide +kernel
theorem dfX1 : ∀ j, j < 5 → (parseFieldDescriptor (TX1 j).2.2.1).map defaultValue = some (match ([some none, some none, none, none, none] : List (Option (Option Nat))).getD j none with | none => .int 0 | some _ => .null) := by decide +kernel
theorem dfX2 : ∀ j, j < 2 → (parseFieldDescriptor (TX2 j).2.2.1).map defaultValue = some (match ([some none, some none] : List (Option (Option Nat))).getD j none with | none => .int 0 | some _ => .null) := by decide +kernel
theorem dfX3 : ∀ j, j < 3 → (parseFieldDescriptor (TX3 j).2.2.1).map defaultValue = some (match ([some none, none, none] : List (Option (Option Nat))).getD j none with | none => .int 0 | some _ => .null) := by decide +kernel
theorem dfX4 : ∀ j, j < 10 → (parseFieldDescriptor (TX4 j).2.2.1).map defaultValue = some (match ([some none, some none, some none, some none, some none, none, none, none, none, none] : List (Option (Option Nat))).getD j none with | none => .int 0 | some _ => .null) := by decide +kernel
theorem dfX5 : ∀ j, j < 3 → (parseFieldDescriptor (TX5 j).2.2.1).map defaultValue = some (match ([some none, none, none] : List (Option (Option Nat))).getD j none with | none => .int 0 | some _ => .null) := by decide +kernel
theorem dfX6 : ∀ j, j < 3 → (parseFieldDescriptor (TX6 j).2.2.1).map defaultValue = some (match ([none, none, some none] : List (Option (Option Nat))).getD j none with | none => .int 0 | some _ => .null) := by decide +kernel
theorem dfX7 : ∀ j, j < 4 → (parseFieldDescriptor (TX7 j).2.2.1).map defaultValue = some (match ([some none, some none, none, none] : List (Option (Option Nat))).getD j none with | none => .int 0 | some _ => .null) := by decide +kernel
theorem dfX8 : ∀ j, j < 7 → (parseFieldDescriptor (TX8 j).2.2.1).map defaultValue = some (match ([some none, some none, some none, some none, some none, some none, none] : List (Option (Option Nat))).getD j none with | none => .int 0 | some _ => .null) := by decide +kernel
theorem dfX9 : ∀ j, j < 29 → (parseFieldDescriptor (TX9 j).2.2.1).map defaultValue = some (match ([some none, some none, none, none, some none, some none, some none, some none, none, none, none, none, none, none, none, none, some none, none, some none, none, some none, some none, some none, none, none, none, none, none, some none] : List (Option (Option Nat))).getD j none with | none => .int 0 | some _ => .null) := by decide +kernel
theorem nR {rs : List (Option (Option Nat))} (h : (rs.all fun r => match r with | some (some _) => false | _ => true) = true) : ∀ a, ¬ some (some a) ∈ rs := fun a q => by
  have := List.all_eq_true.mp h _ q
  cases this
theorem wN_48 : Cond.classLink RX4 9 RX5 ∈ tkTb ∧ Cond.instantiable RX5 3 ∈ tkTb ∧ Cond.initialized RX5 ∈ tkTb := ⟨tk_tb (by decide +kernel) rfl, tk_tb (by decide +kernel) rfl, tk_tb (by decide +kernel) rfl⟩
theorem wN_29 : Cond.classLink RX2 9 RX4 ∈ tkTb ∧ Cond.instantiable RX4 10 ∈ tkTb ∧ Cond.initialized RX4 ∈ tkTb := ⟨tk_tb (by decide +kernel) rfl, tk_tb (by decide +kernel) rfl, tk_tb (by decide +kernel) rfl⟩
theorem wN_39 : Cond.classLink RX3 9 RX0 ∈ tkTb ∧ Cond.instantiable RX0 9 ∈ tkTb ∧ Cond.initialized RX0 ∈ tkTb := ⟨tk_tb (by decide +kernel) rfl, tk_tb (by decide +kernel) rfl, tk_tb (by decide +kernel) rfl⟩
theorem wN_87 : Cond.classLink RX8 7 RX0 ∈ tkTb ∧ Cond.instantiable RX0 9 ∈ tkTb ∧ Cond.initialized RX0 ∈ tkTb := ⟨tk_tb (by decide +kernel) rfl, tk_tb (by decide +kernel) rfl, tk_tb (by decide +kernel) rfl⟩
theorem wN_816 : Cond.classLink RX8 16 RX3 ∈ tkTb ∧ Cond.instantiable RX3 3 ∈ tkTb ∧ Cond.initialized RX3 ∈ tkTb := ⟨tk_tb (by decide +kernel) rfl, tk_tb (by decide +kernel) rfl, tk_tb (by decide +kernel) rfl⟩
theorem wN_823 : Cond.classLink RX8 23 RX2 ∈ tkTb ∧ Cond.instantiable RX2 2 ∈ tkTb ∧ Cond.initialized RX2 ∈ tkTb := ⟨tk_tb (by decide +kernel) rfl, tk_tb (by decide +kernel) rfl, tk_tb (by decide +kernel) rfl⟩
theorem wN_830 : Cond.classLink RX8 30 RX7 ∈ tkTb ∧ Cond.instantiable RX7 4 ∈ tkTb ∧ Cond.initialized RX7 ∈ tkTb := ⟨tk_tb (by decide +kernel) rfl, tk_tb (by decide +kernel) rfl, tk_tb (by decide +kernel) rfl⟩
theorem wN_837 : Cond.classLink RX8 37 RX1 ∈ tkTb ∧ Cond.instantiable RX1 5 ∈ tkTb ∧ Cond.initialized RX1 ∈ tkTb := ⟨tk_tb (by decide +kernel) rfl, tk_tb (by decide +kernel) rfl, tk_tb (by decide +kernel) rfl⟩
theorem wN_844 : Cond.classLink RX8 44 RX6 ∈ tkTb ∧ Cond.instantiable RX6 3 ∈ tkTb ∧ Cond.initialized RX6 ∈ tkTb := ⟨tk_tb (by decide +kernel) rfl, tk_tb (by decide +kernel) rfl, tk_tb (by decide +kernel) rfl⟩
theorem hz_id {n n' : Nat} {h : tkH} (hn : n ≤ n') : hz0 n h → hz0 n' h := fun q j hj => q j (by omega)
theorem f193 : fS 193 = (7, 10, [some (some 194), some (some 196), some (some 198), some (some 199), some (some 200), none, none, none, none, none]) := by decide +kernel
theorem f194 : fS 194 = (8, 3, [some (some 195), none, none]) := by decide +kernel
theorem f195 : fS 195 = (0, 10, []) := by decide +kernel
theorem f196 : fS 196 = (8, 3, [some (some 197), none, none]) := by decide +kernel
theorem f197 : fS 197 = (0, 10, []) := by decide +kernel
theorem f198 : fS 198 = (0, 10, []) := by decide +kernel
theorem f199 : fS 199 = (0, 121, []) := by decide +kernel
theorem f200 : fS 200 = (0, 10, []) := by decide +kernel
theorem f192 : fS 192 = (5, 2, [some (some 193), some (some 201)]) := by decide +kernel
theorem f201 : fS 201 = (0, 100, []) := by decide +kernel
/-- Laying(): two rows, three arrays -/
theorem c_layg (E : tkE) {S : Nat → tkK} {h : tkH} (hW : wfS 194 (oS S 193 (7, 10, [some none, some none, some none, some none, some none, none, none, none, none, none]))) (hz : hz0 194 h) (hS : ∀ i, 193 ≤ i → S i = fS i) : tkMN E [] yX4_init cX4_init 1 2 7 167 194 (oS S 193 (7, 10, [some none, some none, some none, some none, some none, none, none, none, none, none])) h 193 [] 201 S h := by
  have t3 := f193
  have t4 := f194
  have t5 := f195
  have t6 := f196
  have t7 := f197
  have t8 := f198
  have t9 := f199
  have t0 := f200
  refine tkMN_of (As := fun _ => []) (by decide) rfl (fun _ => Nat.le_of_ble_eq_true rfl) hW hz (fun X hR hi _ G => ?_)
  have G : tkG E X cX4_init 1 RX4 none := G
  refine J_al (k := 193) G dX4_init_0 0 (fun _ => rfl) ?_
  refine J_obj G dX4_init_1 wOb4 (rm1 hR (by decide)) ?_
  refine J_al (k := 193) G dX4_init_4 0 (fun _ => rfl) ?_
  refine J_nw (rs := [some none, none, none]) G kX5 dX4_init_5 wN_48 dfX5 (nR rfl) (rmC hR (by decide)) (by omega) (kp_a1 (by omega)) (kp_s1 (by omega)) ?_
  refine J_dup G dX4_init_8 ?_
  refine J_cn (b := 194) (n' := 196) (S' := oS S 193 (7, 10, [some none, some none, some none, some none, some none, none, none, none, none, none])) (h' := h) (As := fun _ => []) (st := fun ad => [.ref (ad 194), .ref (ad 193)]) G dX4_init_9 wY_X5_init rfl wM_X4_11 wI_X5_init aoQ_0 (rmF hR (by decide) (by decide)) (fun w1 z1 ad _ => c_row (eAd E ad) (k := 194) w1 z1 ((oS_i (i := 194) hS (by decide)).trans t4) ((oS_i (i := 195) hS (by decide)).trans t5)) (fun _ => rfl) (fun _ => rfl) (fun _ => Nat.le_of_ble_eq_true rfl) (rmC hR (by decide)) (by omega) (kp_a1 (by omega)) (fun ad ad' e => by simp only [e 193 (by omega), e 194 (by omega)]) (fun w1 => wf_closeF w1 (by omega) (by omega) (oS_ge hS (by decide)) (by decide +kernel)) (hz_id (by omega)) ?_
  refine J_pr (j := 0) (m := 194) (k := 193) (ty := tyX4 0) G hi kX4 dX4_init_12 wF_X4_12 (by decide) (by omega) (by omega) oS_s (Nat.le_of_ble_eq_true rfl) rfl rfl (tyX4_ok 0 (by decide)) (fun _ => ⟨rfl, rfl⟩) ?_
  rw [oS_oS]
  refine J_al (k := 193) G dX4_init_15 0 (fun _ => rfl) ?_
  refine J_nw (rs := [some none, none, none]) G kX5 dX4_init_16 wN_48 dfX5 (nR rfl) (rmC hR (by decide)) (by omega) (kp_a1 (by omega)) (kp_s1 (by omega)) ?_
  refine J_dup G dX4_init_19 ?_
  refine J_cn (b := 196) (n' := 198) (S' := oS S 193 (7, 10, [some (some 194), some none, some none, some none, some none, none, none, none, none, none])) (h' := h) (As := fun _ => []) (st := fun ad => [.ref (ad 196), .ref (ad 193)]) G dX4_init_20 wY_X5_init rfl wM_X4_11 wI_X5_init aoQ_0 (rmF hR (by decide) (by decide)) (fun w1 z1 ad _ => c_row (eAd E ad) (k := 196) w1 z1 ((oS_i (i := 196) hS (by decide)).trans t6) ((oS_i (i := 197) hS (by decide)).trans t7)) (fun _ => rfl) (fun _ => rfl) (fun _ => Nat.le_of_ble_eq_true rfl) (rmC hR (by decide)) (by omega) (kp_a1 (by omega)) (fun ad ad' e => by simp only [e 193 (by omega), e 196 (by omega)]) (fun w1 => wf_closeF w1 (by omega) (by omega) (oS_ge hS (by decide)) (by decide +kernel)) (hz_id (by omega)) ?_
  refine J_pr (j := 1) (m := 196) (k := 193) (ty := tyX4 1) G hi kX4 dX4_init_23 wF_X4_18 (by decide) (by omega) (by omega) oS_s (Nat.le_of_ble_eq_true rfl) rfl rfl (tyX4_ok 1 (by decide)) (fun _ => ⟨rfl, rfl⟩) ?_
  rw [oS_oS]
  refine J_al (k := 193) G dX4_init_26 0 (fun _ => rfl) ?_
  refine J_bi (v := nI 10) G dX4_init_27 (by decide) ?_
  refine J_na (N := 10) G dX4_init_29 rfl (by decide) ((oS_i (i := 198) hS (by decide)).trans t8) (rmC hR (by decide)) wArr (by omega) (kp_a1 (by omega)) (kp_s1 (by omega)) ?_
  refine J_pr (j := 2) (m := 198) (k := 193) (ty := tyX4 2) G hi kX4 dX4_init_31 wF_X4_21 (by decide) (by omega) (by omega) oS_s (Nat.le_of_ble_eq_true rfl) rfl rfl (tyX4_ok 2 (by decide)) (fun _ => ⟨rfl, rfl⟩) ?_
  rw [oS_oS]
  refine J_al (k := 193) G dX4_init_34 0 (fun _ => rfl) ?_
  refine J_bi (v := nI 121) G dX4_init_35 (by decide) ?_
  refine J_na (N := 121) G dX4_init_37 rfl (by decide) ((oS_i (i := 199) hS (by decide)).trans t9) (rmC hR (by decide)) wArr (by omega) (kp_a1 (by omega)) (kp_s1 (by omega)) ?_
  refine J_pr (j := 3) (m := 199) (k := 193) (ty := tyX4 3) G hi kX4 dX4_init_39 wF_X4_25 (by decide) (by omega) (by omega) oS_s (Nat.le_of_ble_eq_true rfl) rfl rfl (tyX4_ok 3 (by decide)) (fun _ => ⟨rfl, rfl⟩) ?_
  rw [oS_oS]
  refine J_al (k := 193) G dX4_init_42 0 (fun _ => rfl) ?_
  refine J_bi (v := nI 10) G dX4_init_43 (by decide) ?_
  refine J_na (N := 10) G dX4_init_45 rfl (by decide) ((oS_i (i := 200) hS (by decide)).trans t0) (rmC hR (by decide)) wArr (by omega) (kp_a1 (by omega)) (kp_s1 (by omega)) ?_
  refine J_pr (j := 4) (m := 200) (k := 193) (ty := tyX4 4) G hi kX4 dX4_init_47 wF_X4_28 (by decide) (by omega) (by omega) oS_s (Nat.le_of_ble_eq_true rfl) rfl rfl (tyX4_ok 4 (by decide)) (fun _ => ⟨rfl, rfl⟩) ?_
  rw [oS_oS]
  have R : tkJ 194 E X 1 7 167 (tkZN E X 194 201 S h 7 167) 50 (fun ad => lv_args 0 (.ref (ad 193) :: [])) (fun _ => []) 201 (oS S 193 (7, 10, [some (some 194), some (some 196), some (some 198), some (some 199), some (some 200), none, none, none, none, none])) h := by
    rw [oS_id ((hS 193 (by omega)).trans t3)]
    exact J_vret G dX4_init_50 (by decide) (by decide)
  exact R
/-- Costs() -/
theorem c_cst (E : tkE) {S : Nat → tkK} {h : tkH} (hW : wfS 193 (oS S 192 (5, 2, [some none, some none]))) (hz : hz0 193 h) (hS : ∀ i, 192 ≤ i → S i = fS i) : tkMN E [] yX2_init cX2_init 1 3 9 277 193 (oS S 192 (5, 2, [some none, some none])) h 192 [] 202 S (flh h 201 100 (-1)) := by
  have t2 := f192
  have t1 := f201
  refine tkMN_of (As := fun _ => []) (by decide) rfl (fun _ => Nat.le_of_ble_eq_true rfl) hW hz (fun X hR hi _ G => ?_)
  have G : tkG E X cX2_init 1 RX2 none := G
  refine J_al (k := 192) G dX2_init_0 0 (fun _ => rfl) ?_
  refine J_obj G dX2_init_1 wOb2 (rm1 hR (by decide)) ?_
  refine J_al (k := 192) G dX2_init_4 0 (fun _ => rfl) ?_
  refine J_nw (rs := [some none, some none, some none, some none, some none, none, none, none, none, none]) G kX4 dX2_init_5 wN_29 dfX4 (nR rfl) (rmC hR (by decide)) (by omega) (kp_a1 (by omega)) (kp_s1 (by omega)) ?_
  refine J_dup G dX2_init_8 ?_
  refine J_cn (b := 193) (n' := 201) (S' := oS S 192 (5, 2, [some none, some none])) (h' := h) (As := fun _ => []) (st := fun ad => [.ref (ad 193), .ref (ad 192)]) G dX2_init_9 wY_X4_init rfl wM_X2_11 wI_X4_init aoQ_0 (rmF hR (by decide) (by decide)) (fun w1 z1 ad _ => c_layg (eAd E ad) w1 z1 (oS_ge hS (by decide))) (fun _ => rfl) (fun _ => rfl) (fun _ => Nat.le_of_ble_eq_true rfl) (rmC hR (by decide)) (by omega) (kp_a1 (by omega)) (fun ad ad' e => by simp only [e 192 (by omega), e 193 (by omega)]) (fun w1 => wf_closeF w1 (by omega) (by omega) (oS_ge hS (by decide)) (by decide +kernel)) (hz_id (by omega)) ?_
  refine J_pr (j := 0) (m := 193) (k := 192) (ty := tyX2 0) G hi kX2 dX2_init_12 wF_X2_12 (by decide) (by omega) (by omega) oS_s (Nat.le_of_ble_eq_true rfl) rfl rfl (tyX2_ok 0 (by decide)) (fun _ => ⟨rfl, rfl⟩) ?_
  rw [oS_oS]
  refine J_al (k := 192) G dX2_init_15 0 (fun _ => rfl) ?_
  refine J_bi (v := nI 100) G dX2_init_16 (by decide) ?_
  refine J_na (N := 100) G dX2_init_18 rfl (by decide) ((oS_i (i := 201) hS (by decide)).trans t1) (rmC hR (by decide)) wArr (by omega) (kp_a1 (by omega)) (kp_s1 (by omega)) ?_
  refine J_pr (j := 1) (m := 201) (k := 192) (ty := tyX2 1) G hi kX2 dX2_init_20 wF_X2_18 (by decide) (by omega) (by omega) oS_s (Nat.le_of_ble_eq_true rfl) rfl rfl (tyX2_ok 1 (by decide)) (fun _ => ⟨rfl, rfl⟩) ?_
  rw [oS_oS]
  refine J_al (k := 192) G dX2_init_23 0 (fun _ => rfl) ?_
  refine J_gr (j := 1) (k := 192) (m := 201) G kX2 dX2_init_24 wF_X2_18 (by decide) (by omega) oS_s rfl ?_
  refine J_ic (v := -1) G dX2_init_27 (by decide) ?_
  refine J_cs (h' := flh h 201 100 (-1)) (As := fun ad => [.ref (ad 201), .int (-1)]) (st := fun _ => []) G dX2_init_28 wY_J7_fill_53178 wM_X2_22 wI_J7_fill_53178 (rmF hR (by decide) (by decide)) (fun ad => c_fillT (eAd E ad) _ h 201 100 [] (-1) (by rw [oT_get (by omega), oS_n (by decide), hS 201 (by omega), t1]) (by decide)) (fun _ => rfl) (fun _ => rfl) (fun _ => Nat.le_of_ble_eq_true rfl) (rmC hR (by decide)) (fun q j hj => by
    have hj' : 202 ≤ j := hj
    unfold flh
    rw [if_neg (by omega)]
    exact q j hj) ?_
  have R : tkJ 193 E X 1 9 277 (tkZN E X 193 202 S (flh h 201 100 (-1)) 9 277) 31 (fun ad => lv_args 0 (.ref (ad 192) :: [])) (fun _ => []) 202 (oS S 192 (5, 2, [some (some 193), some (some 201)])) (flh h 201 100 (-1)) := by
    rw [oS_id ((hS 192 (by omega)).trans t2)]
    exact J_vret G dX2_init_31 (by decide) (by decide)
  exact R
