/-! the class: rows of STEPS, pairs, ends -/
/-- only the class's scratch may have changed -/
def XF (h hf : tkH) : Prop := ∀ q, q ≤ 192 ∨ q = 201 ∨ 208 ≤ q → hf q = h q
theorem XF.rf {h : tkH} : XF h h := fun _ _ => rfl
theorem XF.tr {h1 h2 h3 : tkH} (p : XF h1 h2) (q : XF h2 h3) : XF h1 h3 := fun a e => (q a e).trans (p a e)
theorem XF.up {h : tkH} {c j : Nat} {v : Int32} (e : (193 ≤ c ∧ c ≤ 200) ∨ (202 ≤ c ∧ c ≤ 207)) : XF h (tkup h c j v) := fun q z => up_a (by omega)
theorem XF.cp {h : tkH} {s sp c dp n : Nat} (e : (193 ≤ c ∧ c ≤ 200) ∨ (202 ≤ c ∧ c ≤ 207)) : XF h (tkcp h s sp c dp n) := fun q z => cp_a (by omega)
theorem XF.f {h hf : tkH} (p : XF h hf) : hf 218 = h 218 := p 218 (by omega)
theorem XR.xf {h hf : tkH} {f : Nat → Int32} (r : XR h 1 f) (p : XF h hf) : XR hf 1 f := by
  unfold XR
  rw [p 1 (by omega), p (1 + 1) (by omega), p (1 + 2) (by omega), p (1 + 3) (by omega), p (1 + 4) (by omega), p (1 + 5) (by omega), p (1 + 6) (by omega), p (1 + 7) (by omega), p (1 + 8) (by omega)]
  exact r
/-- a STEP as the class has it -/
def sc (f : Nat → Int32) (t i : Nat) : Nat := 16 * cS f t i 0 + 4 * cS f t i 1 + cS f t i 2
theorem XR.st {h : tkH} {f : Nat → Int32} (r : XR h 1 f) (v : Vd f) {t i : Nat} (ht : t < cN f) (hi : i < cL f t) : h 7 (10 * t + i) = nI (sc f t i) := by
  rw [(r.2.1 t ht).2.2.2.2.2 i hi, (v.s0 ht hi).1, (v.s1 ht hi).1, (v.s2 ht hi).1]
  exact (pk_all (v.s0 ht hi).2 (v.s1 ht hi).2 (v.s2 ht hi).2).1
theorem ln_2 : ln 2 = 10 ∧ ln 3 = 10 ∧ ln 4 = 10 ∧ ln 5 = 10 ∧ ln 6 = 10 ∧ ln 7 = 100 ∧ ln 8 = 3 ∧ ln 9 = 36 := by decide +kernel
theorem x_isFramed {h : tkH} {f : Nat → Int32} {t : Nat} (r : XR h 1 f) (v : Vd f) (ht : t < cN f) : f_X0_isFramed h 1 (nI t) = some (nI (fr f t), h) := by
  have n := v.n.2
  have k := v.k ht
  have l := v.l ht
  unfold f_X0_isFramed
  simp only [FL]
  rw [rdI_n (by simp only [LN]; omega) (by simp only [LN]; decide), (r.2.1 t ht).1, k.1]
  simp only [Option.bind_some]
  rw [nl2, nI_inj_if (by omega) (by omega), rdI_n (by simp only [LN]; omega) (by simp only [LN]; decide), (r.2.1 t ht).2.2.2.2.1, l.1]
  simp only [Option.bind_some]
  unfold fr
  by_cases h1 : cK f t = 2
  · rw [if_pos h1]
    by_cases h2 : 2 ≤ cL f t
    · rw [if_neg (by rw [nI_ltI (by omega) (by omega)]; omega), if_pos ⟨h1, h2⟩]
      rfl
    · rw [if_pos (by rw [nI_ltI (by omega) (by omega)]; omega), if_neg (fun q => h2 q.2)]
      rfl
  · rw [if_neg h1, if_neg (fun q => h1 q.1)]
    rfl
theorem x_firstLaid {h : tkH} {f : Nat → Int32} {t : Nat} (r : XR h 1 f) (v : Vd f) (ht : t < cN f) : f_X0_firstLaid h 1 (nI t) = some (nI (fr f t), h) := by
  unfold f_X0_firstLaid
  rw [x_isFramed r v ht]
  simp only [Option.bind_some]
  unfold fr
  split
  · rw [if_neg (by decide)]; rfl
  · rw [if_pos (by rfl)]; rfl
theorem x_laidLength {h : tkH} {f : Nat → Int32} {t : Nat} (r : XR h 1 f) (v : Vd f) (ht : t < cN f) : f_X0_laidLength h 1 (nI t) = some (nI (to_ f t - fr f t), h) := by
  have n := v.n.2
  have l := v.l ht
  unfold f_X0_laidLength
  rw [x_isFramed r v ht]
  simp only [Option.bind_some, FL]
  rw [rdI_n (by simp only [LN]; omega) (by simp only [LN]; decide), (r.2.1 t ht).2.2.2.2.1, l.1]
  simp only [Option.bind_some]
  unfold to_ fr
  by_cases h1 : cK f t = 2 ∧ 2 ≤ cL f t
  · rw [if_pos h1, if_neg (by decide), nl2, pk_sub h1.2, show cL f t - 1 - 1 = cL f t - 2 by omega]
  · rw [if_neg h1, if_pos (by rfl)]
    rfl
theorem x_isTorn {h : tkH} {f : Nat → Int32} {t : Nat} (r : XR h 1 f) (v : Vd f) (ht : t < cN f) : f_X0_isTorn h 1 (nI t) = some (bI (torn f t), h) := by
  have n := v.n.2
  have k := v.k ht
  unfold f_X0_isTorn
  simp only [FL]
  rw [rdI_n (by simp only [LN]; omega) (by simp only [LN]; decide), (r.2.1 t ht).1, k.1]
  simp only [Option.bind_some]
  unfold f_X8_isUnder
  rw [show (if nI (cK f t) = 1 then some ((1 : Int32), h) else if (1 : Int32) = 0 then some (1, h) else if nI (cK f t) = 3 then if (1 : Int32) = 1 then some (1, h) else some (0, h) else some (0, h)) = if nI (cK f t) = nI 1 then some ((1 : Int32), h) else if (1 : Int32) = 0 then some (1, h) else if nI (cK f t) = nI 3 then if (1 : Int32) = 1 then some (1, h) else some (0, h) else some (0, h) from rfl]
  rw [nI_inj_if (by omega) (by omega), nI_inj_if (by omega) (by omega), if_neg (by decide : ¬ (1 : Int32) = 0), if_pos rfl]
  unfold torn
  by_cases h1 : cK f t = 1
  · simp [h1, bI, bz_1]
  · by_cases h3 : cK f t = 3
    · simp [h3, bI, bz_1]
    · simp [h1, h3, bI, bz_0]
/-- a row at cell c (its STEPS at c + 1): the n STEPS of tale t from i on -/
def RW (h : tkH) (c : Nat) (f : Nat → Int32) (t i n : Nat) (tr : Bool) : Prop := h c 1 = nI n ∧ h c 2 = bI tr ∧ ∀ x, x < n → h (c + 1) x = nI (sc f t (i + x))
theorem x_takePart {h : tkH} {f : Nat → Int32} {c t i n : Nat} (hc : c = 194 ∨ c = 196) (r : XR h 1 f) (v : Vd f) (ht : t < cN f) (hi : i + n ≤ cL f t) : ∃ hf, XF h hf ∧ (∀ q, q ≠ c → q ≠ c + 1 → hf q = h q) ∧ RW hf c f t i n false ∧ f_X5_takePart h c 1 (nI t) (nI i) (nI n) = some hf := by
  have n1 := v.n.2
  have l := v.l ht
  unfold f_X5_takePart
  have e6 : fld 1 6 = 7 := by simp only [FL]
  have e0 : fld c 0 = c + 1 := by rcases hc with rfl | rfl <;> simp only [FL]
  have l7 : ln 7 = 100 := by simp only [LN]
  have lc : ln (c + 1) = 10 := by rcases hc with rfl | rfl <;> decide +kernel
  rw [e6, e0, nl10, pk_mul, nI_add, nl0, cpI_n (by omega) (by omega) (by omega) (by omega)]
  simp only [Option.bind_some]
  refine ⟨_, ?_, ?_, ?_, rfl⟩
  · exact (XF.cp (by omega)).tr ((XF.up (by omega)).tr (XF.up (by omega)))
  · intro q h1 h2
    rw [up_a h1, up_a h1, cp_a h2]
  · refine ⟨?_, ?_, fun x hx => ?_⟩
    · rw [up_i (by decide), up_s]
    · rw [up_s]; rfl
    · rw [up_a (by omega), up_a (by omega), cp_in (by omega) (by omega)]
      rw [show t * 10 + i + (x - 0) = 10 * t + (i + x) by omega]
      exact r.st v ht (by omega)
theorem x_takeLaid {h : tkH} {f : Nat → Int32} {c t : Nat} (hc : c = 194 ∨ c = 196) (r : XR h 1 f) (v : Vd f) (ht : t < cN f) : ∃ hf, XF h hf ∧ (∀ q, q ≠ c → q ≠ c + 1 → hf q = h q) ∧ RW hf c f t (fr f t) (to_ f t - fr f t) (torn f t) ∧ f_X5_takeLaid h c 1 (nI t) = some hf := by
  have hl := fr_le (f := f) (t := t)
  unfold f_X5_takeLaid
  rw [x_firstLaid r v ht]
  simp only [Option.bind_some]
  rw [x_laidLength r v ht]
  simp only [Option.bind_some]
  obtain ⟨h1, a1, a2, a3, a4⟩ := x_takePart hc r v ht (i := fr f t) (n := to_ f t - fr f t) (by omega)
  rw [a4]
  simp only [Option.bind_some]
  rw [x_isTorn (r.xf a1) v ht]
  simp only [Option.bind_some]
  rw [bz_bI]
  simp only [Option.bind_some]
  refine ⟨_, a1.tr (XF.up (by omega)), fun q g1 g2 => by rw [up_a g1, a2 q g1 g2], ⟨?_, ?_, fun x hx => ?_⟩, rfl⟩
  · rw [up_i (by decide)]
    exact a3.1
  · rw [up_s]
  · rw [up_a (by omega)]
    exact a3.2.2 x hx
/-- a carried STEP -/
def cc_ (f : Nat → Int32) (k t i : Nat) : Nat := 16 * cS f t i 0 + 4 * pm k (cS f t i 1) + pm k (cS f t i 2)
theorem x_goal {h : tkH} {k r : Nat} (hk : k < 24) (hr : r < 4) : f_X8_goal h (tkCv k) (nI r) = some (nI (pm k r), h) := by
  unfold f_X8_goal
  rw [(pm_ok hk hr).2]
theorem x_carry {f : Nat → Int32} {a fa na k : Nat} {ta : Bool} (hk : k < 24) (v : Vd f) (ha : a < cN f) (hn : fa + na ≤ cL f a) : ∀ (m n i : Nat) (g : tkH), m + i = na → m < n → RW g 194 f a fa na ta → (∀ x, x < i → g 198 x = nI (cc_ f k a (fa + x))) →
    ∃ hf, BC 198 g hf ∧ (∀ x, x < na → hf 198 x = nI (cc_ f k a (fa + x))) ∧ f_X4_carrySteps_L2 193 (tkCv k) n g (nI i) = some hf := by
  have l := v.l ha
  intro m
  induction m with
  | zero =>
    intro n i g hi hn' hR hC
    obtain ⟨n', rfl⟩ : ∃ n', n = n' + 1 := ⟨n - 1, by omega⟩
    have : i = na := by omega
    subst this
    refine ⟨g, BC.rf, hC, ?_⟩
    rw [f_X4_carrySteps_L2_s]
    simp only [FL]
    rw [hR.1, if_pos (Int32.le_refl _)]
  | succ m ih =>
    intro n i g hi hn' hR hC
    obtain ⟨n', rfl⟩ : ∃ n', n = n' + 1 := ⟨n - 1, by omega⟩
    rw [f_X4_carrySteps_L2_s]
    simp only [FL]
    rw [hR.1, if_neg (nI_ge (by omega) (by omega)), rdI_n (by simp only [LN]; omega) (by simp only [LN]; decide), hR.2.2 i (by omega)]
    have s0 := (v.s0 ha (i := fa + i) (by omega)).2
    have s1 := (v.s1 ha (i := fa + i) (by omega)).2
    have s2 := (v.s2 ha (i := fa + i) (by omega)).2
    have P := pk_all s0 s1 s2
    have m1 := (pm_ok hk (r := cS f a (fa + i) 1) (by omega)).1
    have m2 := (pm_ok hk (r := cS f a (fa + i) 2) (by omega)).1
    have P2 := (pk_all s0 (w := pm k (cS f a (fa + i) 1)) (u := pm k (cS f a (fa + i) 2)) (by omega) (by omega)).1
    simp only [Option.bind_some, f_X8_motifOf, f_X8_whoOf, f_X8_whomOf, f_X8_packed, sc]
    rw [P.2.1, P.2.2.1, P.2.2.2, x_goal hk (by omega)]
    simp only [Option.bind_some]
    rw [x_goal hk (by omega)]
    simp only [Option.bind_some]
    rw [show ((nI (cS f a (fa + i) 0) <<< (4 &&& 31)) ||| (nI (pm k (cS f a (fa + i) 1)) <<< (2 &&& 31))) ||| nI (pm k (cS f a (fa + i) 2)) = pk3 (nI (cS f a (fa + i) 0)) (nI (pm k (cS f a (fa + i) 1))) (nI (pm k (cS f a (fa + i) 2))) from rfl, P2]
    rw [wrI_n (by simp only [LN]; omega) (by simp only [LN]; decide)]
    simp only [Option.bind_some]
    rw [nI_1]
    obtain ⟨hf, b1, b2, b3⟩ := ih n' (i + 1) (tkup g 198 i (nI (16 * cS f a (fa + i) 0 + 4 * pm k (cS f a (fa + i) 1) + pm k (cS f a (fa + i) 2)))) (by omega) (by omega)
      ⟨by rw [up_a (by decide)]; exact hR.1, by rw [up_a (by decide)]; exact hR.2.1, fun x hx => by rw [up_a (by decide)]; exact hR.2.2 x hx⟩
      (fun x hx => by
        by_cases e : x = i
        · subst e
          rw [up_s]
          rfl
        · rw [up_i e]
          exact hC x (by omega))
    exact ⟨hf, BC.tr BC.up b1, b2, b3⟩
theorem x_carrySteps {g : tkH} {f : Nat → Int32} {a fa na k : Nat} {ta : Bool} (hk : k < 24) (v : Vd f) (ha : a < cN f) (hn : fa + na ≤ cL f a) (hR : RW g 194 f a fa na ta) :
    ∃ hf, BC 198 g hf ∧ (∀ x, x < na → hf 198 x = nI (cc_ f k a (fa + x))) ∧ f_X4_carrySteps g 193 (tkCv k) = some hf := by
  have l := v.l ha
  exact x_carry hk v ha hn na FU 0 g (by omega) (FU_gt (by omega)) hR (fun x hx => absurd hx (Nat.not_lt_zero _))
