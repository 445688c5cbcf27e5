/-! the reference: pairs, ends, the table of LAYINGS with a pair to come -/
def bI (b : Bool) : Int32 := if b then 1 else 0
/-- the two rows that the reference has taken -/
def MS (h : tkH) (a fa ea : Nat) (ta : Bool) (b fb eb : Nat) (tb : Bool) : Prop :=
  h 217 8 = nI a ∧ h 217 9 = nI fa ∧ h 217 10 = nI ea ∧ h 217 11 = bI ta ∧ h 217 12 = nI b ∧ h 217 13 = nI fb ∧ h 217 14 = nI eb ∧ h 217 15 = bI tb
def MC (h : tkH) (k : Nat) : Prop := ∀ r, r < 4 → h 223 r = nI (pm k r)
/-- f, and two tales of it with as many STEPS -/
def MV (f : Nat → Int32) (a ea b eb : Nat) : Prop := Vd f ∧ a < cN f ∧ b < cN f ∧ ea ≤ cL f a ∧ eb ≤ cL f b
theorem MV.b10 {f : Nat → Int32} {a ea b eb : Nat} (h : MV f a ea b eb) : a < 10 ∧ b < 10 ∧ ea ≤ 10 ∧ eb ≤ 10 := by
  obtain ⟨v, h1, h2, h3, h4⟩ := h
  have := v.n.2
  have := (v.l h1).2
  have := (v.l h2).2
  omega
theorem mnI_n {a b : Nat} (ha : a < 2 ^ 31) (hb : b < 2 ^ 31) : mnI (nI a) (nI b) = nI (min a b) := by
  unfold mnI
  by_cases h : b < a
  · rw [if_pos ((nI_ltI hb ha).mpr h)]
    congr 1
    omega
  · rw [if_neg (fun q => h ((nI_ltI hb ha).mp q))]
    congr 1
    omega
theorem bI_0 {b : Bool} : bI b = 0 ↔ b = false := by cases b <;> simp [bI]
theorem MC_crs {h : tkH} {k : Nat} (hk : k < 24) : MC (crs h k) k := by
  intro r hr
  unfold crs
  rcases (by omega : r = 0 ∨ r = 1 ∨ r = 2 ∨ r = 3) with rfl | rfl | rfl | rfl
  · rw [up_i (by decide), up_i (by decide), up_i (by decide), up_s]
  · rw [up_i (by decide), up_i (by decide), up_s]
  · rw [up_i (by decide), up_s]
  · rw [up_s]
theorem crs_a {h : tkH} {k a : Nat} (e : a ≠ 223) : crs h k a = h a := by
  unfold crs
  rw [up_a e, up_a e, up_a e, up_a e]
theorem r223 {h : tkH} {k r : Nat} (hM : MC h k) (hr : r < 4) : rdI h 223 (nI r) = some (nI (pm k r)) := by
  rw [rdI_n (by simp only [LN]; exact hr) (by simp only [LN]; decide), hM r hr]
theorem nI_inj_if {α : Type} {a b : Nat} (ha : a < 2 ^ 31) (hb : b < 2 ^ 31) (x y : α) : (if nI a = nI b then x else y) = if a = b then x else y := by
  by_cases h : a = b
  · subst h
    rw [if_pos rfl, if_pos rfl]
  · rw [if_neg h, if_neg (fun q => h ((nI_eq ha hb).mp q))]
theorem m_pairCost {h : tkH} {a fa ea b fb eb i j k : Nat} {ta tb : Bool} (hS : MS h a fa ea ta b fb eb tb) (hV : MV (h 218) a ea b eb) (hC : MC h k) (hk : k < 24) (hi : i < ea) (hj : j < eb) :
    f_X9_pairCost h 217 (nI i) (nI j) = some (nI (pq (cQ (h 218) 0) (cQ (h 218) 1) k (cS (h 218) a) (cS (h 218) b) i j), h) := by
  obtain ⟨s8, s9, s10, s11, s12, s13, s14, s15⟩ := hS
  have hb := hV.b10
  obtain ⟨v, va, vb, vea, veb⟩ := hV
  have ia : i < cL (h 218) a := by omega
  have jb : j < cL (h 218) b := by omega
  have a0 := v.s0 va ia
  have a1 := v.s1 va ia
  have a2 := v.s2 va ia
  have b0 := v.s0 vb jb
  have b1 := v.s1 vb jb
  have b2 := v.s2 vb jb
  have q0 := v.q (j := 0) (by decide)
  have q1 := v.q (j := 1) (by decide)
  have m1 := (pm_ok hk (r := cS (h 218) a i 1) (by omega)).1
  have m2 := (pm_ok hk (r := cS (h 218) a i 2) (by omega)).1
  have S0 : ∀ t x w, t < 10 → x < 10 → w < 3 → f_X9_stepOf h 217 (nI t) (nI x) (nI w) = some (h 218 (90 + 3 * (10 * t + x) + w), h) := fun t x w h1 h2 h3 => m_stepOf h1 h2 h3
  have L3 : ∀ (n : Nat) (s : Int32), f_X9_pairCost_L37 217 (nI i) (nI j) (n + 1) h s 3 = some (s, h) := fun n s => by
    rw [f_X9_pairCost_L37_s, if_pos (by decide)]
  have L2 : ∀ (n s : Nat), s < 2000 → f_X9_pairCost_L37 217 (nI i) (nI j) (n + 2) h (nI s) 2 = some (nI (s + (if pm k (cS (h 218) a i 2) = cS (h 218) b j 2 then 0 else cQ (h 218) 1)), h) := by
    intro n s hs
    rw [f_X9_pairCost_L37_s, if_neg (by decide), s8, nl2, S0 a i 2 (by omega) (by omega) (by decide)]
    simp only [Option.bind_some, FL]
    rw [a2.1, r223 hC (by omega)]
    simp only [Option.bind_some, s12]
    rw [S0 b j 2 (by omega) (by omega) (by decide)]
    simp only [Option.bind_some]
    rw [b2.1, nI_inj_if (by omega) (by omega), r218 (by decide), q1.1, nl1, nI_add]
    simp only [Option.bind_some, nI_add, nl0]
    rw [← nl3]
    split
    · exact L3 n _
    · exact L3 n _
  have L : ∀ s : Nat, s < 1000 → f_X9_pairCost_L37 217 (nI i) (nI j) FU h (nI s) 1 = some (nI (s + (if pm k (cS (h 218) a i 1) = cS (h 218) b j 1 then 0 else cQ (h 218) 1) + (if pm k (cS (h 218) a i 2) = cS (h 218) b j 2 then 0 else cQ (h 218) 1)), h) := by
    intro s hs
    rw [show FU = FU0 + 9 + 1 from rfl, f_X9_pairCost_L37_s, if_neg (by decide), s8, nl1, S0 a i 1 (by omega) (by omega) (by decide)]
    simp only [Option.bind_some, FL]
    rw [a1.1, r223 hC (by omega)]
    simp only [Option.bind_some, s12]
    rw [S0 b j 1 (by omega) (by omega) (by decide)]
    simp only [Option.bind_some]
    rw [b1.1, nI_inj_if (by omega) (by omega), nl2, r218 (by decide), q1.1, nI_add]
    simp only [Option.bind_some, nI_add, nl0]
    rw [← nl2]
    split
    · exact L2 (FU0 + 7) _ (by omega)
    · exact L2 (FU0 + 7) _ (by omega)
  unfold f_X9_pairCost
  simp only [s8, s12, nl0, FL]
  rw [S0 a i 0 (by omega) (by omega) (by decide)]
  simp only [Option.bind_some]
  simp only [s12]
  rw [S0 b j 0 (by omega) (by omega) (by decide)]
  simp only [Option.bind_some, Nat.add_zero]
  rw [a0.1, b0.1, nI_inj_if (by omega) (by omega), nl1, r218 (by decide), q0.1]
  simp only [Option.bind_some, f_X9_pairCost_J33]
  unfold pq
  split
  · rw [L 0 (by decide)]
  · rw [L _ (by omega)]
theorem m_endCost {h : tkH} {a fa ea b fb eb i j : Nat} {ta tb : Bool} (hS : MS h a fa ea ta b fb eb tb) (hV : MV (h 218) a ea b eb) (hi : i ≤ ea) (hj : j ≤ eb) :
    f_X9_endCost h 217 (nI i) (nI j) = some (nI (eq_ (cQ (h 218) 2) ta tb (ea - i) (eb - j)), h) := by
  obtain ⟨s8, s9, s10, s11, s12, s13, s14, s15⟩ := hS
  have q2 := hV.1.q (j := 2) (by decide)
  unfold f_X9_endCost
  simp only [FL, nl3]
  rw [r218 (by decide), q2.1]
  simp only [Option.bind_some, s15, s10, bI_0]
  have J : ∀ x : Nat, f_X9_endCost_J23 217 (nI (cQ (h 218) 2)) (nI j) h (nI x) = some (nI (cQ (h 218) 2 * (x + (if ta then 0 else eb - j))), h) := by
    intro x
    unfold f_X9_endCost_J23 f_X9_endCost_J40
    simp only [s11, s14, bI_0]
    cases ta
    · simp only [if_true, pk_sub hj, nI_add, pk_mul, Bool.false_eq_true, if_false]
    · simp only [Bool.true_eq_false, if_false, nl0, nI_add, pk_mul, if_true]
  unfold eq_
  cases tb
  · simp only [if_true, pk_sub hi, J, Bool.false_eq_true, if_false]
  · simp only [Bool.true_eq_false, if_false, nl0, J, if_true]
theorem r224 {h : tkH} {k : Nat} (hk : k < 121) : rdI h 224 (nI k) = some (h 224 k) := rdI_n (by simp only [LN]; exact hk) (by simp only [LN]; decide)
theorem w224 {h : tkH} {k : Nat} {x : Int32} (hk : k < 121) : wrI h 224 (nI k) x = some (tkup h 224 k x) := wrI_n (by simp only [LN]; exact hk) (by simp only [LN]; decide)
theorem m_pairsLeft {h : tkH} {i j : Nat} (hi : i ≤ 10) (hj : j ≤ 10) : f_X9_pairsLeft h 217 (nI i) (nI j) = some (h 224 (11 * i + j), h) := by
  unfold f_X9_pairsLeft
  simp only [FL, nl11, pk_mul, nI_add]
  rw [r224 (by omega)]
  rfl
theorem m_leastFrom {h : tkH} {a fa ea b fb eb i j v : Nat} {ta tb : Bool} (hS : MS h a fa ea ta b fb eb tb) (hV : MV (h 218) a ea b eb) (hi : i ≤ ea) (hj : j ≤ eb) (hv : h 224 (11 * i + j) = nI v) (hf : v ≤ FAR) :
    f_X9_leastFrom h 217 (nI i) (nI j) = some (nI (min v (eq_ (cQ (h 218) 2) ta tb (ea - i) (eb - j))), h) := by
  have hb := hV.b10
  have q2 := hV.1.q (j := 2) (by decide)
  have he := eq_le q2.2 ta tb (x := ea - i) (y := eb - j) (by omega) (by omega)
  unfold FAR at hf
  unfold f_X9_leastFrom
  rw [m_pairsLeft (by omega) (by omega)]
  simp only [Option.bind_some]
  rw [m_endCost hS hV hi hj]
  simp only [Option.bind_some]
  rw [hv, mnI_n (by omega) (by omega)]
