/-! constructors: words, leaves -/
theorem wArr : Cond.arrayClass .int ∈ tkTb := tk_tb (by decide +kernel) rfl
theorem wObI : Cond.instanceMethod Lib.objectInit ∈ tkTb := tk_tb (by decide +kernel) rfl
theorem wObC : Cond.code Lib.objectInit ⟨#[0xb1]⟩ 1 none ∈ tkTb := tk_tb (by decide +kernel) rfl
theorem wOb0 : Cond.methodLink RX0 3 Lib.objectInit ∈ tkTb ∧ Cond.instanceMethod Lib.objectInit ∈ tkTb ∧ Cond.code Lib.objectInit ⟨#[0xb1]⟩ 1 none ∈ tkTb := ⟨tk_tb (by decide +kernel) rfl, wObI, wObC⟩
theorem wOb1 : Cond.methodLink RX1 3 Lib.objectInit ∈ tkTb ∧ Cond.instanceMethod Lib.objectInit ∈ tkTb ∧ Cond.code Lib.objectInit ⟨#[0xb1]⟩ 1 none ∈ tkTb := ⟨tk_tb (by decide +kernel) rfl, wObI, wObC⟩
theorem wOb2 : Cond.methodLink RX2 3 Lib.objectInit ∈ tkTb ∧ Cond.instanceMethod Lib.objectInit ∈ tkTb ∧ Cond.code Lib.objectInit ⟨#[0xb1]⟩ 1 none ∈ tkTb := ⟨tk_tb (by decide +kernel) rfl, wObI, wObC⟩
theorem wOb3 : Cond.methodLink RX3 3 Lib.objectInit ∈ tkTb ∧ Cond.instanceMethod Lib.objectInit ∈ tkTb ∧ Cond.code Lib.objectInit ⟨#[0xb1]⟩ 1 none ∈ tkTb := ⟨tk_tb (by decide +kernel) rfl, wObI, wObC⟩
theorem wOb4 : Cond.methodLink RX4 3 Lib.objectInit ∈ tkTb ∧ Cond.instanceMethod Lib.objectInit ∈ tkTb ∧ Cond.code Lib.objectInit ⟨#[0xb1]⟩ 1 none ∈ tkTb := ⟨tk_tb (by decide +kernel) rfl, wObI, wObC⟩
theorem wOb5 : Cond.methodLink RX5 3 Lib.objectInit ∈ tkTb ∧ Cond.instanceMethod Lib.objectInit ∈ tkTb ∧ Cond.code Lib.objectInit ⟨#[0xb1]⟩ 1 none ∈ tkTb := ⟨tk_tb (by decide +kernel) rfl, wObI, wObC⟩
theorem wOb6 : Cond.methodLink RX6 3 Lib.objectInit ∈ tkTb ∧ Cond.instanceMethod Lib.objectInit ∈ tkTb ∧ Cond.code Lib.objectInit ⟨#[0xb1]⟩ 1 none ∈ tkTb := ⟨tk_tb (by decide +kernel) rfl, wObI, wObC⟩
theorem wOb7 : Cond.methodLink RX7 3 Lib.objectInit ∈ tkTb ∧ Cond.instanceMethod Lib.objectInit ∈ tkTb ∧ Cond.code Lib.objectInit ⟨#[0xb1]⟩ 1 none ∈ tkTb := ⟨tk_tb (by decide +kernel) rfl, wObI, wObC⟩
theorem wOb8 : Cond.methodLink RX8 1 Lib.objectInit ∈ tkTb ∧ Cond.instanceMethod Lib.objectInit ∈ tkTb ∧ Cond.code Lib.objectInit ⟨#[0xb1]⟩ 1 none ∈ tkTb := ⟨tk_tb (by decide +kernel) rfl, wObI, wObC⟩
theorem wOb9 : Cond.methodLink RX9 1 Lib.objectInit ∈ tkTb ∧ Cond.instanceMethod Lib.objectInit ∈ tkTb ∧ Cond.code Lib.objectInit ⟨#[0xb1]⟩ 1 none ∈ tkTb := ⟨tk_tb (by decide +kernel) rfl, wObI, wObC⟩
def fS : Nat → tkK := fun j => tkF.getD j (99, 0, [])
theorem kp_a1 {n k : Nat} (hk : k < n) : kpt n (fun ad : Nat → Nat => lv_args 0 (.ref (ad k) :: [])) := fun ad ad' e => by simp only [e k hk]
theorem kp_s1 {n k : Nat} (hk : k < n) : kpt n (fun ad : Nat → Nat => [Value.ref (ad k)]) := fun ad ad' e => by simp only [e k hk]
theorem kp_n {α : Type} {n : Nat} {v : α} : kpt n (fun _ : Nat → Nat => v) := fun _ _ _ => rfl
theorem wf_close {n n' k : Nat} {S : Nat → tkK} {v : tkK} (h : wfS n (oS S k v)) (hn : n ≤ n') (hr : ∀ i, i = k ∨ n ≤ i → i < n' → ∀ a, rfs (S i) a → a < n') : wfS n' S := by
  intro i hi a ha
  by_cases c : i = k ∨ n ≤ i
  · exact hr i c hi a ha
  · have := h i (by omega) a (by rw [oS_n (by omega)]; exact ha)
    omega
theorem rm1 {X : tkX} {d mc ms : Nat} (hR : x_R X = tkRN d mc ms) (h : 1 ≤ d) : 1 ≤ (x_R X).frames ∧ 12 ≤ (x_R X).locals := by
  rw [hR]
  show 1 ≤ d ∧ 12 ≤ 40 * d
  omega
theorem rmC {X : tkX} {d mc ms a b : Nat} (hR : x_R X = tkRN d mc ms) (h : a ≤ mc ∧ b ≤ ms) : a ≤ (x_R X).cells ∧ b ≤ (x_R X).slots := by
  rw [hR]
  exact h
theorem rmF {X : tkX} {d d' mc ms nC : Nat} (hR : x_R X = tkRN d mc ms) (h : d' < d) (hn : nC ≤ 20) : d' + 1 ≤ (x_R X).frames ∧ 8 + (nC + 11) + 40 * d' ≤ (x_R X).locals := by
  rw [hR]
  show d' + 1 ≤ d ∧ 8 + (nC + 11) + 40 * d' ≤ 40 * d
  omega
theorem c_row (E : tkE) {S : Nat → tkK} {k : Nat} {h : tkH} (hW : wfS (k + 1) (oS S k (8, 3, [some none, none, none]))) (hz : hz0 (k + 1) h) (s0 : S k = (8, 3, [some (some (k + 1)), none, none])) (s1 : S (k + 1) = (0, 10, [])) : tkMN E [] yX5_init cX5_init 1 1 1 10 (k + 1) (oS S k (8, 3, [some none, none, none])) h k [] (k + 2) S h := by
  refine tkMN_of (As := fun _ => []) (by decide) rfl (fun _ => Nat.le_of_ble_eq_true rfl) hW hz (fun X hR hi _ G => ?_)
  have G : tkG E X cX5_init 1 RX5 none := G
  refine J_al (k := k) G dX5_init_0 0 (fun _ => rfl) ?_
  refine J_obj G dX5_init_1 wOb5 (rm1 hR (by decide)) ?_
  refine J_al (k := k) G dX5_init_4 0 (fun _ => rfl) ?_
  refine J_bi (v := nI 10) G dX5_init_5 (by decide) ?_
  refine J_na (N := 10) G dX5_init_7 rfl (by decide) (by rw [oS_n (by omega)]; exact s1) (rmC hR (by decide)) wArr (by omega) (kp_a1 (by omega)) (kp_s1 (by omega)) ?_
  refine J_pr (j := 0) (m := k + 1) (k := k) (ty := tyX5 0) G hi kX5 dX5_init_9 wF_X5_9 (by decide) (by omega) (by omega) oS_s (Nat.le_of_ble_eq_true rfl) rfl rfl (tyX5_ok 0 (by decide)) (fun _ => ⟨rfl, rfl⟩) ?_
  rw [oS_oS]
  have eF : oS S k (8, 3, [some (some (k + 1)), none, none]) = S := oS_id s0
  have R : tkJ (k + 1) E X 1 1 10 (tkZN E X (k + 1) (k + 2) S (h) 1 10) 12 (fun ad => lv_args 0 (.ref (ad k) :: [])) (fun _ => []) (k + 2) (oS S k (8, 3, [some (some (k + 1)), none, none])) (h) := by
    rw [eF]
    exact J_vret G dX5_init_12 (by decide) (by decide)
  exact R
theorem c_sht (E : tkE) {S : Nat → tkK} {k : Nat} {h : tkH} (hW : wfS (k + 1) (oS S k (9, 3, [none, none, some none]))) (hz : hz0 (k + 1) h) (s0 : S k = (9, 3, [none, none, some (some (k + 1))])) (s1 : S (k + 1) = (0, 30, [])) : tkMN E [] yX6_init cX6_init 1 1 1 30 (k + 1) (oS S k (9, 3, [none, none, some none])) h k [] (k + 2) S h := by
  refine tkMN_of (As := fun _ => []) (by decide) rfl (fun _ => Nat.le_of_ble_eq_true rfl) hW hz (fun X hR hi _ G => ?_)
  have G : tkG E X cX6_init 1 RX6 none := G
  refine J_al (k := k) G dX6_init_0 0 (fun _ => rfl) ?_
  refine J_obj G dX6_init_1 wOb6 (rm1 hR (by decide)) ?_
  refine J_al (k := k) G dX6_init_4 0 (fun _ => rfl) ?_
  refine J_bi (v := nI 30) G dX6_init_5 (by decide) ?_
  refine J_na (N := 30) G dX6_init_7 rfl (by decide) (by rw [oS_n (by omega)]; exact s1) (rmC hR (by decide)) wArr (by omega) (kp_a1 (by omega)) (kp_s1 (by omega)) ?_
  refine J_pr (j := 2) (m := k + 1) (k := k) (ty := tyX6 2) G hi kX6 dX6_init_9 wF_X6_9 (by decide) (by omega) (by omega) oS_s (Nat.le_of_ble_eq_true rfl) rfl rfl (tyX6_ok 2 (by decide)) (fun _ => ⟨rfl, rfl⟩) ?_
  rw [oS_oS]
  have eF : oS S k (9, 3, [none, none, some (some (k + 1))]) = S := oS_id s0
  have R : tkJ (k + 1) E X 1 1 30 (tkZN E X (k + 1) (k + 2) S (h) 1 30) 12 (fun ad => lv_args 0 (.ref (ad k) :: [])) (fun _ => []) (k + 2) (oS S k (9, 3, [none, none, some (some (k + 1))])) (h) := by
    rw [eF]
    exact J_vret G dX6_init_12 (by decide) (by decide)
  exact R
theorem c_tre (E : tkE) {S : Nat → tkK} {k : Nat} {h : tkH} (hW : wfS (k + 1) (oS S k (10, 4, [some none, some none, none, none]))) (hz : hz0 (k + 1) h) (s0 : S k = (10, 4, [some (some (k + 1)), some (some (k + 2)), none, none])) (s1 : S (k + 1) = (0, 10, [])) (s2 : S (k + 2) = (0, 10, [])) : tkMN E [] yX7_init cX7_init 1 1 2 20 (k + 1) (oS S k (10, 4, [some none, some none, none, none])) h k [] (k + 3) S h := by
  refine tkMN_of (As := fun _ => []) (by decide) rfl (fun _ => Nat.le_of_ble_eq_true rfl) hW hz (fun X hR hi _ G => ?_)
  have G : tkG E X cX7_init 1 RX7 none := G
  refine J_al (k := k) G dX7_init_0 0 (fun _ => rfl) ?_
  refine J_obj G dX7_init_1 wOb7 (rm1 hR (by decide)) ?_
  refine J_al (k := k) G dX7_init_4 0 (fun _ => rfl) ?_
  refine J_bi (v := nI 10) G dX7_init_5 (by decide) ?_
  refine J_na (N := 10) G dX7_init_7 rfl (by decide) (by rw [oS_n (by omega)]; exact s1) (rmC hR (by decide)) wArr (by omega) (kp_a1 (by omega)) (kp_s1 (by omega)) ?_
  refine J_pr (j := 0) (m := k + 1) (k := k) (ty := tyX7 0) G hi kX7 dX7_init_9 wF_X7_9 (by decide) (by omega) (by omega) oS_s (Nat.le_of_ble_eq_true rfl) rfl rfl (tyX7_ok 0 (by decide)) (fun _ => ⟨rfl, rfl⟩) ?_
  rw [oS_oS]
  refine J_al (k := k) G dX7_init_12 0 (fun _ => rfl) ?_
  refine J_bi (v := nI 10) G dX7_init_13 (by decide) ?_
  refine J_na (N := 10) G dX7_init_15 rfl (by decide) (by rw [oS_n (by omega)]; exact s2) (rmC hR (by decide)) wArr (by omega) (kp_a1 (by omega)) (kp_s1 (by omega)) ?_
  refine J_pr (j := 1) (m := k + 2) (k := k) (ty := tyX7 1) G hi kX7 dX7_init_17 wF_X7_15 (by decide) (by omega) (by omega) oS_s (Nat.le_of_ble_eq_true rfl) rfl rfl (tyX7_ok 1 (by decide)) (fun _ => ⟨rfl, rfl⟩) ?_
  rw [oS_oS]
  have eF : oS S k (10, 4, [some (some (k + 1)), some (some (k + 2)), none, none]) = S := oS_id s0
  have R : tkJ (k + 1) E X 1 2 20 (tkZN E X (k + 1) (k + 3) S (h) 2 20) 20 (fun ad => lv_args 0 (.ref (ad k) :: [])) (fun _ => []) (k + 3) (oS S k (10, 4, [some (some (k + 1)), some (some (k + 2)), none, none])) (h) := by
    rw [eF]
    exact J_vret G dX7_init_20 (by decide) (by decide)
  exact R
theorem c_bor (E : tkE) {S : Nat → tkK} {k : Nat} {h : tkH} (hW : wfS (k + 1) (oS S k (4, 5, [some none, some none, none, none, none]))) (hz : hz0 (k + 1) h) (s0 : S k = (4, 5, [some (some (k + 1)), some (some (k + 2)), none, none, none])) (s1 : S (k + 1) = (0, 4, [])) (s2 : S (k + 2) = (0, 4, [])) : tkMN E [] yX1_init cX1_init 1 1 2 8 (k + 1) (oS S k (4, 5, [some none, some none, none, none, none])) h k [] (k + 3) S h := by
  refine tkMN_of (As := fun _ => []) (by decide) rfl (fun _ => Nat.le_of_ble_eq_true rfl) hW hz (fun X hR hi _ G => ?_)
  have G : tkG E X cX1_init 1 RX1 none := G
  refine J_al (k := k) G dX1_init_0 0 (fun _ => rfl) ?_
  refine J_obj G dX1_init_1 wOb1 (rm1 hR (by decide)) ?_
  refine J_al (k := k) G dX1_init_4 0 (fun _ => rfl) ?_
  refine J_ic (v := nI 4) G dX1_init_5 (by decide) ?_
  refine J_na (N := 4) G dX1_init_6 rfl (by decide) (by rw [oS_n (by omega)]; exact s1) (rmC hR (by decide)) wArr (by omega) (kp_a1 (by omega)) (kp_s1 (by omega)) ?_
  refine J_pr (j := 0) (m := k + 1) (k := k) (ty := tyX1 0) G hi kX1 dX1_init_8 wF_X1_9 (by decide) (by omega) (by omega) oS_s (Nat.le_of_ble_eq_true rfl) rfl rfl (tyX1_ok 0 (by decide)) (fun _ => ⟨rfl, rfl⟩) ?_
  rw [oS_oS]
  refine J_al (k := k) G dX1_init_11 0 (fun _ => rfl) ?_
  refine J_ic (v := nI 4) G dX1_init_12 (by decide) ?_
  refine J_na (N := 4) G dX1_init_13 rfl (by decide) (by rw [oS_n (by omega)]; exact s2) (rmC hR (by decide)) wArr (by omega) (kp_a1 (by omega)) (kp_s1 (by omega)) ?_
  refine J_pr (j := 1) (m := k + 2) (k := k) (ty := tyX1 1) G hi kX1 dX1_init_15 wF_X1_15 (by decide) (by omega) (by omega) oS_s (Nat.le_of_ble_eq_true rfl) rfl rfl (tyX1_ok 1 (by decide)) (fun _ => ⟨rfl, rfl⟩) ?_
  rw [oS_oS]
  have eF : oS S k (4, 5, [some (some (k + 1)), some (some (k + 2)), none, none, none]) = S := oS_id s0
  have R : tkJ (k + 1) E X 1 2 8 (tkZN E X (k + 1) (k + 3) S (h) 2 8) 18 (fun ad => lv_args 0 (.ref (ad k) :: [])) (fun _ => []) (k + 3) (oS S k (4, 5, [some (some (k + 1)), some (some (k + 2)), none, none, none])) (h) := by
    rw [eF]
    exact J_vret G dX1_init_18 (by decide) (by decide)
  exact R
def bkh (h : tkH) (k : Nat) : tkH := tkup (tkup (tkup h (k + 7) 0 4) (k + 7) 1 1) (k + 7) 2 3
theorem c_book (E : tkE) {S : Nat → tkK} {k : Nat} {h : tkH} (hW : wfS (k + 1) (oS S k (3, 9, [none, some none, some none, some none, some none, some none, some none, some none, some none]))) (hz : hz0 (k + 1) h) (s0 : S k = (3, 9, [none, some (some (k + 1)), some (some (k + 2)), some (some (k + 3)), some (some (k + 4)), some (some (k + 5)), some (some (k + 6)), some (some (k + 7)), some (some (k + 8))])) (s1 : S (k + 1) = (0, 10, [])) (s2 : S (k + 2) = (0, 10, [])) (s3 : S (k + 3) = (0, 10, [])) (s4 : S (k + 4) = (0, 10, [])) (s5 : S (k + 5) = (0, 10, [])) (s6 : S (k + 6) = (0, 100, [])) (s7 : S (k + 7) = (0, 3, [])) (s8 : S (k + 8) = (0, 36, [])) : tkMN E [] yX0_init cX0_init 1 1 8 189 (k + 1) (oS S k (3, 9, [none, some none, some none, some none, some none, some none, some none, some none, some none])) h k [] (k + 9) S (bkh h k) := by
  refine tkMN_of (As := fun _ => []) (by decide) rfl (fun _ => Nat.le_of_ble_eq_true rfl) hW hz (fun X hR hi _ G => ?_)
  have G : tkG E X cX0_init 1 RX0 none := G
  refine J_al (k := k) G dX0_init_0 0 (fun _ => rfl) ?_
  refine J_obj G dX0_init_1 wOb0 (rm1 hR (by decide)) ?_
  refine J_al (k := k) G dX0_init_4 0 (fun _ => rfl) ?_
  refine J_bi (v := nI 10) G dX0_init_5 (by decide) ?_
  refine J_na (N := 10) G dX0_init_7 rfl (by decide) (by rw [oS_n (by omega)]; exact s1) (rmC hR (by decide)) wArr (by omega) (kp_a1 (by omega)) (kp_s1 (by omega)) ?_
  refine J_pr (j := 1) (m := k + 1) (k := k) (ty := tyX0 1) G hi kX0 dX0_init_9 wF_X0_9 (by decide) (by omega) (by omega) oS_s (Nat.le_of_ble_eq_true rfl) rfl rfl (tyX0_ok 1 (by decide)) (fun _ => ⟨rfl, rfl⟩) ?_
  rw [oS_oS]
  refine J_al (k := k) G dX0_init_12 0 (fun _ => rfl) ?_
  refine J_bi (v := nI 10) G dX0_init_13 (by decide) ?_
  refine J_na (N := 10) G dX0_init_15 rfl (by decide) (by rw [oS_n (by omega)]; exact s2) (rmC hR (by decide)) wArr (by omega) (kp_a1 (by omega)) (kp_s1 (by omega)) ?_
  refine J_pr (j := 2) (m := k + 2) (k := k) (ty := tyX0 2) G hi kX0 dX0_init_17 wF_X0_15 (by decide) (by omega) (by omega) oS_s (Nat.le_of_ble_eq_true rfl) rfl rfl (tyX0_ok 2 (by decide)) (fun _ => ⟨rfl, rfl⟩) ?_
  rw [oS_oS]
  refine J_al (k := k) G dX0_init_20 0 (fun _ => rfl) ?_
  refine J_bi (v := nI 10) G dX0_init_21 (by decide) ?_
  refine J_na (N := 10) G dX0_init_23 rfl (by decide) (by rw [oS_n (by omega)]; exact s3) (rmC hR (by decide)) wArr (by omega) (kp_a1 (by omega)) (kp_s1 (by omega)) ?_
  refine J_pr (j := 3) (m := k + 3) (k := k) (ty := tyX0 3) G hi kX0 dX0_init_25 wF_X0_18 (by decide) (by omega) (by omega) oS_s (Nat.le_of_ble_eq_true rfl) rfl rfl (tyX0_ok 3 (by decide)) (fun _ => ⟨rfl, rfl⟩) ?_
  rw [oS_oS]
  refine J_al (k := k) G dX0_init_28 0 (fun _ => rfl) ?_
  refine J_bi (v := nI 10) G dX0_init_29 (by decide) ?_
  refine J_na (N := 10) G dX0_init_31 rfl (by decide) (by rw [oS_n (by omega)]; exact s4) (rmC hR (by decide)) wArr (by omega) (kp_a1 (by omega)) (kp_s1 (by omega)) ?_
  refine J_pr (j := 4) (m := k + 4) (k := k) (ty := tyX0 4) G hi kX0 dX0_init_33 wF_X0_21 (by decide) (by omega) (by omega) oS_s (Nat.le_of_ble_eq_true rfl) rfl rfl (tyX0_ok 4 (by decide)) (fun _ => ⟨rfl, rfl⟩) ?_
  rw [oS_oS]
  refine J_al (k := k) G dX0_init_36 0 (fun _ => rfl) ?_
  refine J_bi (v := nI 10) G dX0_init_37 (by decide) ?_
  refine J_na (N := 10) G dX0_init_39 rfl (by decide) (by rw [oS_n (by omega)]; exact s5) (rmC hR (by decide)) wArr (by omega) (kp_a1 (by omega)) (kp_s1 (by omega)) ?_
  refine J_pr (j := 5) (m := k + 5) (k := k) (ty := tyX0 5) G hi kX0 dX0_init_41 wF_X0_24 (by decide) (by omega) (by omega) oS_s (Nat.le_of_ble_eq_true rfl) rfl rfl (tyX0_ok 5 (by decide)) (fun _ => ⟨rfl, rfl⟩) ?_
  rw [oS_oS]
  refine J_al (k := k) G dX0_init_44 0 (fun _ => rfl) ?_
  refine J_bi (v := nI 100) G dX0_init_45 (by decide) ?_
  refine J_na (N := 100) G dX0_init_47 rfl (by decide) (by rw [oS_n (by omega)]; exact s6) (rmC hR (by decide)) wArr (by omega) (kp_a1 (by omega)) (kp_s1 (by omega)) ?_
  refine J_pr (j := 6) (m := k + 6) (k := k) (ty := tyX0 6) G hi kX0 dX0_init_49 wF_X0_27 (by decide) (by omega) (by omega) oS_s (Nat.le_of_ble_eq_true rfl) rfl rfl (tyX0_ok 6 (by decide)) (fun _ => ⟨rfl, rfl⟩) ?_
  rw [oS_oS]
  refine J_al (k := k) G dX0_init_52 0 (fun _ => rfl) ?_
  refine J_ic (v := nI 3) G dX0_init_53 (by decide) ?_
  refine J_na (N := 3) G dX0_init_54 rfl (by decide) (by rw [oS_n (by omega)]; exact s7) (rmC hR (by decide)) wArr (by omega) (kp_a1 (by omega)) (kp_s1 (by omega)) ?_
  refine J_dup G dX0_init_56 ?_
  refine J_ic (v := 0) G dX0_init_57 (by decide) ?_
  refine J_ic (v := 4) G dX0_init_58 (by decide) ?_
  refine J_ia (N := 3) (rs := []) G dX0_init_59 (by omega) (by rw [oS_n (by omega)]; exact s7) (by unfold vp_in; decide) ?_
  refine J_dup G dX0_init_60 ?_
  refine J_ic (v := 1) G dX0_init_61 (by decide) ?_
  refine J_ic (v := 1) G dX0_init_62 (by decide) ?_
  refine J_ia (N := 3) (rs := []) G dX0_init_63 (by omega) (by rw [oS_n (by omega)]; exact s7) (by unfold vp_in; decide) ?_
  refine J_dup G dX0_init_64 ?_
  refine J_ic (v := 2) G dX0_init_65 (by decide) ?_
  refine J_ic (v := 3) G dX0_init_66 (by decide) ?_
  refine J_ia (N := 3) (rs := []) G dX0_init_67 (by omega) (by rw [oS_n (by omega)]; exact s7) (by unfold vp_in; decide) ?_
  refine J_pr (j := 7) (m := k + 7) (k := k) (ty := tyX0 7) G hi kX0 dX0_init_68 wF_X0_30 (by decide) (by omega) (by omega) oS_s (Nat.le_of_ble_eq_true rfl) rfl rfl (tyX0_ok 7 (by decide)) (fun _ => ⟨rfl, rfl⟩) ?_
  rw [oS_oS]
  refine J_al (k := k) G dX0_init_71 0 (fun _ => rfl) ?_
  refine J_bi (v := nI 36) G dX0_init_72 (by decide) ?_
  refine J_na (N := 36) G dX0_init_74 rfl (by decide) (by rw [oS_n (by omega)]; exact s8) (rmC hR (by decide)) wArr (by omega) (kp_a1 (by omega)) (kp_s1 (by omega)) ?_
  refine J_pr (j := 8) (m := k + 8) (k := k) (ty := tyX0 8) G hi kX0 dX0_init_76 wF_X0_33 (by decide) (by omega) (by omega) oS_s (Nat.le_of_ble_eq_true rfl) rfl rfl (tyX0_ok 8 (by decide)) (fun _ => ⟨rfl, rfl⟩) ?_
  rw [oS_oS]
  have eF : oS S k (3, 9, [none, some (some (k + 1)), some (some (k + 2)), some (some (k + 3)), some (some (k + 4)), some (some (k + 5)), some (some (k + 6)), some (some (k + 7)), some (some (k + 8))]) = S := oS_id s0
  have R : tkJ (k + 1) E X 1 8 189 (tkZN E X (k + 1) (k + 9) S ((bkh h k)) 8 189) 79 (fun ad => lv_args 0 (.ref (ad k) :: [])) (fun _ => []) (k + 9) (oS S k (3, 9, [none, some (some (k + 1)), some (some (k + 2)), some (some (k + 3)), some (some (k + 4)), some (some (k + 5)), some (some (k + 6)), some (some (k + 7)), some (some (k + 8))])) ((bkh h k)) := by
    rw [eF]
    exact J_vret G dX0_init_79 (by decide) (by decide)
  exact R
def mdh (h : tkH) (k : Nat) : tkH := tkup (tkup (tkup h (k + 1) 1 4) (k + 1) 2 1) (k + 1) 3 3
theorem c_mod (E : tkE) {S : Nat → tkK} {k : Nat} {h : tkH} (hW : wfS (k + 1) (oS S k (12, 29, [some none, some none, none, none, some none, some none, some none, some none, none, none, none, none, none, none, none, none, some none, none, some none, none, some none, some none, some none, none, none, none, none, none, some none]))) (hz : hz0 (k + 1) h) (s0 : S k = (12, 29, [some (some (k + 1)), some (some (k + 2)), none, none, some (some (k + 3)), some (some (k + 4)), some (some (k + 5)), some (some (k + 6)), none, none, none, none, none, none, none, none, some (some (k + 7)), none, some (some (k + 8)), none, some (some (k + 9)), some (some (k + 10)), some (some (k + 11)), none, none, none, none, none, some (some (k + 12))])) (s1 : S (k + 1) = (0, 390, [])) (s2 : S (k + 2) = (0, 7800, [])) (s3 : S (k + 3) = (0, 4, [])) (s4 : S (k + 4) = (0, 4, [])) (s5 : S (k + 5) = (0, 120, [])) (s6 : S (k + 6) = (0, 4, [])) (s7 : S (k + 7) = (0, 121, [])) (s8 : S (k + 8) = (0, 10, [])) (s9 : S (k + 9) = (0, 100, [])) (s10 : S (k + 10) = (0, 10, [])) (s11 : S (k + 11) = (0, 10, [])) (s12 : S (k + 12) = (0, 30, [])) : tkMN E [] yX9_init cX9_init 1 1 12 8603 (k + 1) (oS S k (12, 29, [some none, some none, none, none, some none, some none, some none, some none, none, none, none, none, none, none, none, none, some none, none, some none, none, some none, some none, some none, none, none, none, none, none, some none])) h k [] (k + 13) S (mdh h k) := by
  refine tkMN_of (As := fun _ => []) (by decide) rfl (fun _ => Nat.le_of_ble_eq_true rfl) hW hz (fun X hR hi _ G => ?_)
  have G : tkG E X cX9_init 1 RX9 none := G
  refine J_al (k := k) G dX9_init_0 0 (fun _ => rfl) ?_
  refine J_obj G dX9_init_1 wOb9 (rm1 hR (by decide)) ?_
  refine J_al (k := k) G dX9_init_4 0 (fun _ => rfl) ?_
  refine J_si (v := nI 390) G dX9_init_5 (by decide) ?_
  refine J_na (N := 390) G dX9_init_8 rfl (by decide) (by rw [oS_n (by omega)]; exact s1) (rmC hR (by decide)) wArr (by omega) (kp_a1 (by omega)) (kp_s1 (by omega)) ?_
  refine J_pr (j := 0) (m := k + 1) (k := k) (ty := tyX9 0) G hi kX9 dX9_init_10 wF_X9_9 (by decide) (by omega) (by omega) oS_s (Nat.le_of_ble_eq_true rfl) rfl rfl (tyX9_ok 0 (by decide)) (fun _ => ⟨rfl, rfl⟩) ?_
  rw [oS_oS]
  refine J_al (k := k) G dX9_init_13 0 (fun _ => rfl) ?_
  refine J_si (v := nI 7800) G dX9_init_14 (by decide) ?_
  refine J_na (N := 7800) G dX9_init_17 rfl (by decide) (by rw [oS_n (by omega)]; exact s2) (rmC hR (by decide)) wArr (by omega) (kp_a1 (by omega)) (kp_s1 (by omega)) ?_
  refine J_pr (j := 1) (m := k + 2) (k := k) (ty := tyX9 1) G hi kX9 dX9_init_19 wF_X9_13 (by decide) (by omega) (by omega) oS_s (Nat.le_of_ble_eq_true rfl) rfl rfl (tyX9_ok 1 (by decide)) (fun _ => ⟨rfl, rfl⟩) ?_
  rw [oS_oS]
  refine J_al (k := k) G dX9_init_22 0 (fun _ => rfl) ?_
  refine J_ic (v := nI 4) G dX9_init_23 (by decide) ?_
  refine J_na (N := 4) G dX9_init_24 rfl (by decide) (by rw [oS_n (by omega)]; exact s3) (rmC hR (by decide)) wArr (by omega) (kp_a1 (by omega)) (kp_s1 (by omega)) ?_
  refine J_pr (j := 4) (m := k + 3) (k := k) (ty := tyX9 4) G hi kX9 dX9_init_26 wF_X9_16 (by decide) (by omega) (by omega) oS_s (Nat.le_of_ble_eq_true rfl) rfl rfl (tyX9_ok 4 (by decide)) (fun _ => ⟨rfl, rfl⟩) ?_
  rw [oS_oS]
  refine J_al (k := k) G dX9_init_29 0 (fun _ => rfl) ?_
  refine J_ic (v := nI 4) G dX9_init_30 (by decide) ?_
  refine J_na (N := 4) G dX9_init_31 rfl (by decide) (by rw [oS_n (by omega)]; exact s4) (rmC hR (by decide)) wArr (by omega) (kp_a1 (by omega)) (kp_s1 (by omega)) ?_
  refine J_pr (j := 5) (m := k + 4) (k := k) (ty := tyX9 5) G hi kX9 dX9_init_33 wF_X9_19 (by decide) (by omega) (by omega) oS_s (Nat.le_of_ble_eq_true rfl) rfl rfl (tyX9_ok 5 (by decide)) (fun _ => ⟨rfl, rfl⟩) ?_
  rw [oS_oS]
  refine J_al (k := k) G dX9_init_36 0 (fun _ => rfl) ?_
  refine J_bi (v := nI 120) G dX9_init_37 (by decide) ?_
  refine J_na (N := 120) G dX9_init_39 rfl (by decide) (by rw [oS_n (by omega)]; exact s5) (rmC hR (by decide)) wArr (by omega) (kp_a1 (by omega)) (kp_s1 (by omega)) ?_
  refine J_pr (j := 6) (m := k + 5) (k := k) (ty := tyX9 6) G hi kX9 dX9_init_41 wF_X9_22 (by decide) (by omega) (by omega) oS_s (Nat.le_of_ble_eq_true rfl) rfl rfl (tyX9_ok 6 (by decide)) (fun _ => ⟨rfl, rfl⟩) ?_
  rw [oS_oS]
  refine J_al (k := k) G dX9_init_44 0 (fun _ => rfl) ?_
  refine J_ic (v := nI 4) G dX9_init_45 (by decide) ?_
  refine J_na (N := 4) G dX9_init_46 rfl (by decide) (by rw [oS_n (by omega)]; exact s6) (rmC hR (by decide)) wArr (by omega) (kp_a1 (by omega)) (kp_s1 (by omega)) ?_
  refine J_pr (j := 7) (m := k + 6) (k := k) (ty := tyX9 7) G hi kX9 dX9_init_48 wF_X9_25 (by decide) (by omega) (by omega) oS_s (Nat.le_of_ble_eq_true rfl) rfl rfl (tyX9_ok 7 (by decide)) (fun _ => ⟨rfl, rfl⟩) ?_
  rw [oS_oS]
  refine J_al (k := k) G dX9_init_51 0 (fun _ => rfl) ?_
  refine J_bi (v := nI 121) G dX9_init_52 (by decide) ?_
  refine J_na (N := 121) G dX9_init_54 rfl (by decide) (by rw [oS_n (by omega)]; exact s7) (rmC hR (by decide)) wArr (by omega) (kp_a1 (by omega)) (kp_s1 (by omega)) ?_
  refine J_pr (j := 16) (m := k + 7) (k := k) (ty := tyX9 16) G hi kX9 dX9_init_56 wF_X9_28 (by decide) (by omega) (by omega) oS_s (Nat.le_of_ble_eq_true rfl) rfl rfl (tyX9_ok 16 (by decide)) (fun _ => ⟨rfl, rfl⟩) ?_
  rw [oS_oS]
  refine J_al (k := k) G dX9_init_59 0 (fun _ => rfl) ?_
  refine J_bi (v := nI 10) G dX9_init_60 (by decide) ?_
  refine J_na (N := 10) G dX9_init_62 rfl (by decide) (by rw [oS_n (by omega)]; exact s8) (rmC hR (by decide)) wArr (by omega) (kp_a1 (by omega)) (kp_s1 (by omega)) ?_
  refine J_pr (j := 18) (m := k + 8) (k := k) (ty := tyX9 18) G hi kX9 dX9_init_64 wF_X9_31 (by decide) (by omega) (by omega) oS_s (Nat.le_of_ble_eq_true rfl) rfl rfl (tyX9_ok 18 (by decide)) (fun _ => ⟨rfl, rfl⟩) ?_
  rw [oS_oS]
  refine J_al (k := k) G dX9_init_67 0 (fun _ => rfl) ?_
  refine J_bi (v := nI 100) G dX9_init_68 (by decide) ?_
  refine J_na (N := 100) G dX9_init_70 rfl (by decide) (by rw [oS_n (by omega)]; exact s9) (rmC hR (by decide)) wArr (by omega) (kp_a1 (by omega)) (kp_s1 (by omega)) ?_
  refine J_pr (j := 20) (m := k + 9) (k := k) (ty := tyX9 20) G hi kX9 dX9_init_72 wF_X9_34 (by decide) (by omega) (by omega) oS_s (Nat.le_of_ble_eq_true rfl) rfl rfl (tyX9_ok 20 (by decide)) (fun _ => ⟨rfl, rfl⟩) ?_
  rw [oS_oS]
  refine J_al (k := k) G dX9_init_75 0 (fun _ => rfl) ?_
  refine J_bi (v := nI 10) G dX9_init_76 (by decide) ?_
  refine J_na (N := 10) G dX9_init_78 rfl (by decide) (by rw [oS_n (by omega)]; exact s10) (rmC hR (by decide)) wArr (by omega) (kp_a1 (by omega)) (kp_s1 (by omega)) ?_
  refine J_pr (j := 21) (m := k + 10) (k := k) (ty := tyX9 21) G hi kX9 dX9_init_80 wF_X9_37 (by decide) (by omega) (by omega) oS_s (Nat.le_of_ble_eq_true rfl) rfl rfl (tyX9_ok 21 (by decide)) (fun _ => ⟨rfl, rfl⟩) ?_
  rw [oS_oS]
  refine J_al (k := k) G dX9_init_83 0 (fun _ => rfl) ?_
  refine J_bi (v := nI 10) G dX9_init_84 (by decide) ?_
  refine J_na (N := 10) G dX9_init_86 rfl (by decide) (by rw [oS_n (by omega)]; exact s11) (rmC hR (by decide)) wArr (by omega) (kp_a1 (by omega)) (kp_s1 (by omega)) ?_
  refine J_pr (j := 22) (m := k + 11) (k := k) (ty := tyX9 22) G hi kX9 dX9_init_88 wF_X9_40 (by decide) (by omega) (by omega) oS_s (Nat.le_of_ble_eq_true rfl) rfl rfl (tyX9_ok 22 (by decide)) (fun _ => ⟨rfl, rfl⟩) ?_
  rw [oS_oS]
  refine J_al (k := k) G dX9_init_91 0 (fun _ => rfl) ?_
  refine J_bi (v := nI 30) G dX9_init_92 (by decide) ?_
  refine J_na (N := 30) G dX9_init_94 rfl (by decide) (by rw [oS_n (by omega)]; exact s12) (rmC hR (by decide)) wArr (by omega) (kp_a1 (by omega)) (kp_s1 (by omega)) ?_
  refine J_pr (j := 28) (m := k + 12) (k := k) (ty := tyX9 28) G hi kX9 dX9_init_96 wF_X9_43 (by decide) (by omega) (by omega) oS_s (Nat.le_of_ble_eq_true rfl) rfl rfl (tyX9_ok 28 (by decide)) (fun _ => ⟨rfl, rfl⟩) ?_
  rw [oS_oS]
  refine J_al (k := k) G dX9_init_99 0 (fun _ => rfl) ?_
  refine J_gr (j := 0) (k := k) (m := k + 1) G kX9 dX9_init_100 wF_X9_9 (by decide) (by omega) oS_s rfl ?_
  refine J_ic (v := 1) G dX9_init_103 (by decide) ?_
  refine J_ic (v := 4) G dX9_init_104 (by decide) ?_
  refine J_ia (N := 390) (rs := []) G dX9_init_105 (by omega) (by rw [oS_n (by omega)]; exact s1) (by unfold vp_in; decide) ?_
  refine J_al (k := k) G dX9_init_106 0 (fun _ => rfl) ?_
  refine J_gr (j := 0) (k := k) (m := k + 1) G kX9 dX9_init_107 wF_X9_9 (by decide) (by omega) oS_s rfl ?_
  refine J_ic (v := 2) G dX9_init_110 (by decide) ?_
  refine J_ic (v := 1) G dX9_init_111 (by decide) ?_
  refine J_ia (N := 390) (rs := []) G dX9_init_112 (by omega) (by rw [oS_n (by omega)]; exact s1) (by unfold vp_in; decide) ?_
  refine J_al (k := k) G dX9_init_113 0 (fun _ => rfl) ?_
  refine J_gr (j := 0) (k := k) (m := k + 1) G kX9 dX9_init_114 wF_X9_9 (by decide) (by omega) oS_s rfl ?_
  refine J_ic (v := 3) G dX9_init_117 (by decide) ?_
  refine J_ic (v := 3) G dX9_init_118 (by decide) ?_
  refine J_ia (N := 390) (rs := []) G dX9_init_119 (by omega) (by rw [oS_n (by omega)]; exact s1) (by unfold vp_in; decide) ?_
  have eF : oS S k (12, 29, [some (some (k + 1)), some (some (k + 2)), none, none, some (some (k + 3)), some (some (k + 4)), some (some (k + 5)), some (some (k + 6)), none, none, none, none, none, none, none, none, some (some (k + 7)), none, some (some (k + 8)), none, some (some (k + 9)), some (some (k + 10)), some (some (k + 11)), none, none, none, none, none, some (some (k + 12))]) = S := oS_id s0
  have R : tkJ (k + 1) E X 1 12 8603 (tkZN E X (k + 1) (k + 13) S ((mdh h k)) 12 8603) 120 (fun ad => lv_args 0 (.ref (ad k) :: [])) (fun _ => []) (k + 13) (oS S k (12, 29, [some (some (k + 1)), some (some (k + 2)), none, none, some (some (k + 3)), some (some (k + 4)), some (some (k + 5)), some (some (k + 6)), none, none, none, none, none, none, none, none, some (some (k + 7)), none, some (some (k + 8)), none, some (some (k + 9)), some (some (k + 10)), some (some (k + 11)), none, none, none, none, none, some (some (k + 12))])) ((mdh h k)) := by
    rw [eF]
    exact J_vret G dX9_init_120 (by decide) (by decide)
  exact R
