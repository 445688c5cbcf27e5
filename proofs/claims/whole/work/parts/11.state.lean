/-! THE STATE. f: the reference's row 'now' (0: how many tales; 1..3 prices; 4..39 ways; 40+t kind, 50+t place, 60+t day, 70+t steps, 80+t print; 90+3*(10*t+i)+w a step) -/
def cN (f : Nat → Int32) : Nat := (f 0).toNatClampNeg
def cK (f : Nat → Int32) (t : Nat) : Nat := (f (40 + t)).toNatClampNeg
def cP (f : Nat → Int32) (t : Nat) : Nat := (f (50 + t)).toNatClampNeg
def cD (f : Nat → Int32) (t : Nat) : Nat := (f (60 + t)).toNatClampNeg
def cL (f : Nat → Int32) (t : Nat) : Nat := (f (70 + t)).toNatClampNeg
def cS (f : Nat → Int32) (t i w : Nat) : Nat := (f (90 + 3 * (10 * t + i) + w)).toNatClampNeg
def cQ (f : Nat → Int32) (j : Nat) : Nat := (f (1 + j)).toNatClampNeg
def cW (f : Nat → Int32) (j : Nat) : Nat := (f (4 + j)).toNatClampNeg
/-- x is one of 0 .. n -/
def tN (x : Int32) (n : Nat) : Prop := x = nI x.toNatClampNeg ∧ x.toNatClampNeg ≤ n
theorem tN_of {t n : Nat} (h : t ≤ n) (hn : n < 2 ^ 31) : tN (nI t) n := by
  have : (nI t).toNatClampNeg = t := nI_clamp (by omega)
  exact ⟨by rw [this], by omega⟩
def it (s : Nat → Option Nat) : Nat → Nat → Option Nat
  | 0, x => some x
  | m + 1, x => (s x).bind (it s m)
/-- the print of a tale, if it has one -/
def prt (f : Nat → Int32) (t : Nat) : Option Nat := if f (80 + t) < 0 then none else some (f (80 + t)).toNatClampNeg
def Vd (f : Nat → Int32) : Prop :=
  tN (f 0) 10 ∧ (∀ j, j < 3 → tN (f (1 + j)) 9) ∧ (∀ j, j < 36 → tN (f (4 + j)) 999) ∧
  (∀ t, t < cN f → tN (f (40 + t)) 3 ∧ tN (f (50 + t)) 5 ∧ tN (f (60 + t)) 999 ∧ tN (f (70 + t)) 10 ∧ (f (80 + t) = -1 ∨ ∃ q, q < cN f ∧ f (80 + t) = nI q) ∧
    ∀ i, i < cL f t → tN (f (90 + 3 * (10 * t + i))) 15 ∧ tN (f (90 + 3 * (10 * t + i) + 1)) 3 ∧ tN (f (90 + 3 * (10 * t + i) + 2)) 3) ∧
  ∀ t, t < cN f → ∃ m, it (prt f) m t = none
/-- a STEP as one number -/
def pk3 (m w u : Int32) : Int32 := ((m <<< (4 &&& 31)) ||| (w <<< (2 &&& 31))) ||| u
/-- the book at cell b stands for f -/
def XR (h : tkH) (b : Nat) (f : Nat → Int32) : Prop :=
  h b 0 = f 0 ∧ (∀ t, t < cN f → h (b + 1) t = f (40 + t) ∧ h (b + 2) t = f (50 + t) ∧ h (b + 3) t = f (60 + t) ∧ h (b + 4) t = f (80 + t) ∧ h (b + 5) t = f (70 + t) ∧
    ∀ i, i < cL f t → h (b + 6) (10 * t + i) = pk3 (f (90 + 3 * (10 * t + i))) (f (90 + 3 * (10 * t + i) + 1)) (f (90 + 3 * (10 * t + i) + 2))) ∧
  (∀ j, j < 3 → h (b + 7) j = f (1 + j)) ∧ (∀ j, j < 36 → h (b + 8) j = f (4 + j))
theorem Vd.n {f : Nat → Int32} (h : Vd f) : f 0 = nI (cN f) ∧ cN f ≤ 10 := h.1
theorem Vd.q {f : Nat → Int32} (h : Vd f) {j : Nat} (hj : j < 3) : f (1 + j) = nI (cQ f j) ∧ cQ f j ≤ 9 := h.2.1 j hj
theorem Vd.w {f : Nat → Int32} (h : Vd f) {j : Nat} (hj : j < 36) : f (4 + j) = nI (cW f j) ∧ cW f j ≤ 999 := h.2.2.1 j hj
theorem Vd.k {f : Nat → Int32} (h : Vd f) {t : Nat} (ht : t < cN f) : f (40 + t) = nI (cK f t) ∧ cK f t ≤ 3 := (h.2.2.2.1 t ht).1
theorem Vd.p {f : Nat → Int32} (h : Vd f) {t : Nat} (ht : t < cN f) : f (50 + t) = nI (cP f t) ∧ cP f t ≤ 5 := (h.2.2.2.1 t ht).2.1
theorem Vd.d {f : Nat → Int32} (h : Vd f) {t : Nat} (ht : t < cN f) : f (60 + t) = nI (cD f t) ∧ cD f t ≤ 999 := (h.2.2.2.1 t ht).2.2.1
theorem Vd.l {f : Nat → Int32} (h : Vd f) {t : Nat} (ht : t < cN f) : f (70 + t) = nI (cL f t) ∧ cL f t ≤ 10 := (h.2.2.2.1 t ht).2.2.2.1
theorem Vd.s0 {f : Nat → Int32} (h : Vd f) {t i : Nat} (ht : t < cN f) (hi : i < cL f t) : f (90 + 3 * (10 * t + i)) = nI (cS f t i 0) ∧ cS f t i 0 ≤ 15 := ((h.2.2.2.1 t ht).2.2.2.2.2 i hi).1
theorem Vd.s1 {f : Nat → Int32} (h : Vd f) {t i : Nat} (ht : t < cN f) (hi : i < cL f t) : f (90 + 3 * (10 * t + i) + 1) = nI (cS f t i 1) ∧ cS f t i 1 ≤ 3 := ((h.2.2.2.1 t ht).2.2.2.2.2 i hi).2.1
theorem Vd.s2 {f : Nat → Int32} (h : Vd f) {t i : Nat} (ht : t < cN f) (hi : i < cL f t) : f (90 + 3 * (10 * t + i) + 2) = nI (cS f t i 2) ∧ cS f t i 2 ≤ 3 := ((h.2.2.2.1 t ht).2.2.2.2.2 i hi).2.2
/-! steps as numbers -/
theorem pk_allb : ((List.range 16).all fun m => (List.range 4).all fun w => (List.range 4).all fun u => pk3 (nI m) (nI w) (nI u) == nI (16 * m + 4 * w + u) && (nI (16 * m + 4 * w + u)) >>> ((4 : Int32) &&& 31) == nI m && (nI (16 * m + 4 * w + u) &&& 12) >>> ((2 : Int32) &&& 31) == nI w && nI (16 * m + 4 * w + u) &&& 3 == nI u) = true := by decide +kernel
theorem pk_all {m w u : Nat} (hm : m ≤ 15) (hw : w ≤ 3) (hu : u ≤ 3) : pk3 (nI m) (nI w) (nI u) = nI (16 * m + 4 * w + u) ∧ (nI (16 * m + 4 * w + u)) >>> ((4 : Int32) &&& 31) = nI m ∧ (nI (16 * m + 4 * w + u) &&& 12) >>> ((2 : Int32) &&& 31) = nI w ∧ nI (16 * m + 4 * w + u) &&& 3 = nI u := by
  have h := List.all_eq_true.mp (List.all_eq_true.mp (List.all_eq_true.mp pk_allb m (List.mem_range.mpr (by omega))) w (List.mem_range.mpr (by omega))) u (List.mem_range.mpr (by omega))
  simp only [Bool.and_eq_true, beq_iff_eq] at h
  exact ⟨h.1.1.1, h.1.1.2, h.1.2, h.2⟩
/-- where the k-th CARRYING leads a role -/
def pm (k r : Nat) : Nat := ([[0, 1, 2, 3], [0, 1, 3, 2], [0, 2, 1, 3], [0, 2, 3, 1], [0, 3, 1, 2], [0, 3, 2, 1], [1, 0, 2, 3], [1, 0, 3, 2], [1, 2, 0, 3], [1, 2, 3, 0], [1, 3, 0, 2], [1, 3, 2, 0], [2, 0, 1, 3], [2, 0, 3, 1], [2, 1, 0, 3], [2, 1, 3, 0], [2, 3, 0, 1], [2, 3, 1, 0], [3, 0, 1, 2], [3, 0, 2, 1], [3, 1, 0, 2], [3, 1, 2, 0], [3, 2, 0, 1], [3, 2, 1, 0]].getD k []).getD r 0
theorem pm_b : ((List.range 24).all fun k => (List.range 4).all fun r => pm k r < 4 && ((tkCv k >>> ((12 - (4 * nI r)) &&& 31)) &&& 3 == nI (pm k r))) = true := by decide +kernel
theorem pm_ok {k r : Nat} (hk : k < 24) (hr : r < 4) : pm k r < 4 ∧ (tkCv k >>> ((12 - (4 * nI r)) &&& 31)) &&& 3 = nI (pm k r) := by
  have h := List.all_eq_true.mp (List.all_eq_true.mp pm_b k (List.mem_range.mpr hk)) r (List.mem_range.mpr hr)
  simp only [Bool.and_eq_true, beq_iff_eq, decide_eq_true_eq] at h
  exact h
/-! within -/
theorem x_in {h : tkH} {t n : Nat} (ht : t < n) (hn : n < 2 ^ 31) : f_X8_isWithin h (nI t) (nI n) = some (1, h) := by
  unfold f_X8_isWithin
  rw [if_neg (nI_pos (by omega)), if_neg (nI_ge ht hn)]
theorem x_out {h : tkH} {a : Int32} {n : Nat} (ha : ¬ ∃ t, t < n ∧ a = nI t) (hn : n < 2 ^ 31) : f_X8_isWithin h a (nI n) = some (0, h) := by
  unfold f_X8_isWithin
  by_cases h0 : a < 0
  · rw [if_pos h0]
  · rw [if_neg h0]
    by_cases h1 : nI n ≤ a
    · rw [if_pos h1]
    · exact absurd (in_nat h0 h1 hn) ha
theorem m_in {h : tkH} {t n : Nat} (ht : t ≤ n) (hn : n < 2 ^ 31) : f_X9_within h (nI t) 0 (nI n) = some (1, h) := by
  unfold f_X9_within
  rw [if_neg (nI_pos (by omega)), if_neg]
  rw [nI_ltI hn (by omega)]
  omega
theorem m_out {h : tkH} {a : Int32} {n : Nat} (ha : ¬ ∃ t, t < n + 1 ∧ a = nI t) (hn : n + 1 < 2 ^ 31) : f_X9_within h a 0 (nI n) = some (0, h) := by
  unfold f_X9_within
  by_cases h0 : a < 0
  · rw [if_pos h0]
  · rw [if_neg h0]
    by_cases h1 : nI n < a
    · rw [if_pos h1]
    · refine absurd ?_ ha
      obtain ⟨j, hj, rfl⟩ := nI_of h0
      rw [nI_ltI (by omega) hj] at h1
      exact ⟨j, by omega, rfl⟩
theorem nI_m1 {n : Nat} (h : 0 < n) : nI n - 1 = nI (n - 1) := by
  obtain ⟨m, rfl⟩ : ∃ m, n = m + 1 := ⟨n - 1, by omega⟩
  rw [nI_pred]; rfl
theorem m_inP {h : tkH} {t n : Nat} (ht : t < n) (hn : n < 2 ^ 31) : f_X9_within h (nI t) 0 (nI n - 1) = some (1, h) := by
  rw [nI_m1 (by omega)]
  exact m_in (by omega) (by omega)
theorem m_outP {h : tkH} {a : Int32} {n : Nat} (ha : ¬ ∃ t, t < n ∧ a = nI t) (hn : n < 2 ^ 31) : f_X9_within h a 0 (nI n - 1) = some (0, h) := by
  by_cases h0 : n = 0
  · subst h0
    unfold f_X9_within
    by_cases h1 : a < 0
    · rw [if_pos h1]
    · rw [if_neg h1, if_pos]
      obtain ⟨j, hj, rfl⟩ := nI_of h1
      rw [Int32.lt_iff_toInt_lt, nI_toInt hj]
      have : (nI 0 - 1).toInt = -1 := by decide
      omega
  · rw [nI_m1 (by omega)]
    exact m_out (by rw [show n - 1 + 1 = n by omega]; exact ha) (by omega)
/-! the reference's small functions -/
theorem r218 {h : tkH} {k : Nat} (hk : k < 390) : rdI h 218 (nI k) = some (h 218 k) := rdI_n (by simp only [LN]; exact hk) (by simp only [LN]; decide)
theorem w218 {h : tkH} {k : Nat} {x : Int32} (hk : k < 390) : wrI h 218 (nI k) x = some (tkup h 218 k x) := wrI_n (by simp only [LN]; exact hk) (by simp only [LN]; decide)
theorem m_isTale_t {h : tkH} {t n : Nat} (hn : h 218 0 = nI n) (hb : n ≤ 10) (ht : t < n) : f_X9_isTale h 217 (nI t) = some (1, h) := by
  simp only [f_X9_isTale, FL, nl0, r218 (show 0 < 390 by decide), hn, Option.bind_some]
  rw [← nl0, m_inP ht (by omega)]
  rfl
theorem m_isTale_f {h : tkH} {a : Int32} {n : Nat} (hn : h 218 0 = nI n) (hb : n ≤ 10) (ha : ¬ ∃ t, t < n ∧ a = nI t) : f_X9_isTale h 217 a = some (0, h) := by
  simp only [f_X9_isTale, FL, nl0, r218 (show 0 < 390 by decide), hn, Option.bind_some]
  rw [← nl0, m_outP ha (by omega)]
  rfl
theorem m_stepOf {h : tkH} {t i w : Nat} (ht : t < 10) (hi : i < 10) (hw : w < 3) : f_X9_stepOf h 217 (nI t) (nI i) (nI w) = some (h 218 (90 + 3 * (10 * t + i) + w), h) := by
  simp only [f_X9_stepOf, FL, nl90, nl3, nl10, pk_mul, nI_add]
  rw [r218 (by omega)]
  rfl
theorem m_setStep {h : tkH} {t i : Nat} {a b c : Int32} (ht : t < 10) (hi : i < 10) : f_X9_setStep h 217 (nI t) (nI i) a b c = some (tkup (tkup (tkup h 218 (90 + 3 * (10 * t + i)) a) 218 (90 + 3 * (10 * t + i) + 1) b) 218 (90 + 3 * (10 * t + i) + 2) c) := by
  simp only [f_X9_setStep, FL, nl90, nl3, nl10, nl1, nl2, pk_mul, nI_add]
  rw [w218 (by omega), Option.bind_some, w218 (by omega), Option.bind_some, w218 (by omega), Option.bind_some]
theorem x_hasTale_t {h : tkH} {b t n : Nat} (hn : h b 0 = nI n) (hb : n ≤ 10) (ht : t < n) : f_X0_hasTale h b (nI t) = some (1, h) := by
  unfold f_X0_hasTale
  rw [hn, x_in ht (by omega)]
  rfl
theorem x_hasTale_f {h : tkH} {b n : Nat} {a : Int32} (hn : h b 0 = nI n) (hb : n ≤ 10) (ha : ¬ ∃ t, t < n ∧ a = nI t) : f_X0_hasTale h b a = some (0, h) := by
  unfold f_X0_hasTale
  rw [hn, x_out ha (by omega)]
  rfl
theorem x_stepAt {h : tkH} {t i : Nat} (ht : t < 10) (hi : i < 10) : f_X0_stepAt h 1 (nI t) (nI i) = some (h 7 (10 * t + i), h) := by
  simp only [f_X0_stepAt, FL, nl10, pk_mul, nI_add]
  rw [rdI_n (by simp only [LN]; omega) (by simp only [LN]; decide), Nat.mul_comm t 10]
  rfl
