/-! calls, one by one: as, of, told, cost, carried -/
theorem Inv.x0 {h : tkH} (I : Inv h) : h 1 0 = nI (cN (h 218)) := by rw [I.2.1.1, I.1.n.1]
theorem f00 : fld 0 0 = 1 ∧ fld 0 1 = 10 ∧ fld 0 2 = 192 ∧ fld 0 3 = 202 ∧ fld 0 4 = 205 ∧ fld 0 5 = 208 := by simp only [FL]; decide
/-- a finding where the reference changes nothing ahead of it -/
theorem OP.f0 {h : tkH} {c : Int32} {X : Option (Int32 × tkH)} {M : tkH → Option (Int32 × tkH)} (I : Inv h) (hX : X = some (c, tkup h 0 6 (h 0 6 + 1))) (hM : ∀ g, (∀ q, q ≠ 0 → g q = h q) → M g = some (c, tkup g 217 3 (g 217 3 + 1))) : OP X M :=
  OP.f I PF.rf I.2.2.2.2.1 hX (fun g e => ⟨g, MF.rf, hM g e⟩)
theorem OP.q0 {h : tkH} {r : Int32} {X : Option (Int32 × tkH)} {M : tkH → Option (Int32 × tkH)} (I : Inv h) (hX : X = some (r, h)) (hM : M h = some (r, h)) : OP X M := OP.q I hX hM PF.rf I.2.2.2.2.1 MF.rf
theorem i01 : ¬ (1 : Int32) = 0 := by decide
theorem nIne {a b : Nat} (ha : a < 2 ^ 31) (hb : b < 2 ^ 31) (c : ¬ a = b) : ¬ nI a = nI b := fun q => c ((nI_eq ha hb).mp q)
theorem i1f : ((1 : Int32) = 0) ↔ False := ⟨i01, False.elim⟩
theorem nI_eq_if {a b : Nat} (ha : a < 2 ^ 31) (hb : b < 2 ^ 31) : (nI a = nI b) ↔ a = b := nI_eq ha hb
theorem op_as {h : tkH} (I : Inv h) (a b : Int32) : OP (f_X8_as h 0 a b) (fun g => f_X9_as g 217 a b) := by
  have v := I.1
  have n2 := v.n.2
  by_cases ha : ∃ t, t < cN (h 218) ∧ a = nI t
  · obtain ⟨t, ht, rfl⟩ := ha
    by_cases hb : ∃ k, k < 4 ∧ b = nI k
    · obtain ⟨k, hk, rfl⟩ := hb
      have kk := v.k ht
      have X1 : f_X8_as h 0 (nI t) (nI k) = if cK (h 218) t = k ∨ k = 0 ∨ (cK (h 218) t = 3 ∧ k = 1) then some (nI t, h) else some (-100004, tkup h 0 6 (h 0 6 + 1)) := by
        unfold f_X8_as
        rw [f00.1, x_hasTale_t I.x0 n2 ht]
        simp only [ob, i1f, eq_self, if_true, if_false]
        rw [nl4, x_in hk (by decide)]
        simp only [ob, i1f, eq_self, if_true, if_false]
        rw [show fld 1 1 = 2 by simp only [FL], rdI_n (by simp only [LN]; omega) (by simp only [LN]; decide)]
        simp only [ob, i1f, eq_self, if_true, if_false]
        rw [(I.2.1.2.1 t ht).1, kk.1]
        unfold f_X8_isUnder
        by_cases c1 : cK (h 218) t = k
        · rw [if_pos (show nI (cK (h 218) t) = nI k by rw [c1]), if_pos (Or.inl c1)]
          simp only [ob, i1f, eq_self, if_true, if_false]
        · rw [if_neg (nIne (by omega) (by omega) c1)]
          by_cases c2 : k = 0
          · rw [if_pos (show nI k = 0 by rw [c2]; rfl), if_pos (Or.inr (Or.inl c2))]
            simp only [ob, i1f, eq_self, if_true, if_false]
          · rw [if_neg (show ¬ nI k = 0 from nIne (b := 0) (by omega) (by decide) c2)]
            by_cases c3 : cK (h 218) t = 3
            · rw [if_pos (show nI (cK (h 218) t) = 3 by rw [c3]; rfl)]
              by_cases c4 : k = 1
              · rw [if_pos (show nI k = 1 by rw [c4]; rfl), if_pos (Or.inr (Or.inr ⟨c3, c4⟩))]
                simp only [ob, i1f, eq_self, if_true, if_false]
              · rw [if_neg (show ¬ nI k = 1 from nIne (b := 1) (by omega) (by decide) c4), if_neg (by omega)]
                simp only [ob, i1f, eq_self, if_true, if_false]
                rfl
            · rw [if_neg (show ¬ nI (cK (h 218) t) = 3 from nIne (b := 3) (by omega) (by decide) c3), if_neg (by omega)]
              simp only [ob, i1f, eq_self, if_true, if_false]
              rfl
      have M1 : ∀ g : tkH, g 218 = h 218 → f_X9_as g 217 (nI t) (nI k) = if cK (h 218) t = k ∨ k = 0 ∨ (cK (h 218) t = 3 ∧ k = 1) then some (nI t, g) else some (-100004, tkup g 217 3 (g 217 3 + 1)) := by
        intro g e
        unfold f_X9_as f_X9_as_J57
        rw [m_isTale_t (n := cN (h 218)) (by rw [e]; exact v.n.1) n2 ht]
        simp only [ob, i1f, eq_self, if_true, if_false]
        rw [nl3, m_in (n := 3) (by omega) (by decide)]
        simp only [ob, i1f, eq_self, if_true, if_false]
        rw [show fld 217 0 = 218 by simp only [FL], nl40, nI_add, r218 (by omega)]
        simp only [ob, i1f, eq_self, if_true, if_false]
        rw [e, kk.1]
        by_cases c2 : k = 0
        · rw [if_pos (show nI k = 0 by rw [c2]; rfl), if_pos (Or.inr (Or.inl c2))]
        · rw [if_neg (show ¬ nI k = 0 from nIne (b := 0) (by omega) (by decide) c2)]
          by_cases c1 : cK (h 218) t = k
          · rw [if_pos (show nI (cK (h 218) t) = nI k by rw [c1]), if_pos (Or.inl c1)]
          · rw [if_neg (nIne (by omega) (by omega) c1)]
            by_cases c4 : k = 1
            · rw [if_pos (show nI k = 1 by rw [c4]; rfl)]
              by_cases c3 : cK (h 218) t = 3
              · rw [if_pos (show nI (cK (h 218) t) = nI 3 by rw [c3]), if_pos (Or.inr (Or.inr ⟨c3, c4⟩))]
              · rw [if_neg (nIne (by omega) (by decide) c3), if_neg (by omega)]
                rfl
            · rw [if_neg (show ¬ nI k = 1 from nIne (b := 1) (by omega) (by decide) c4), if_neg (by omega)]
              rfl
      by_cases c : cK (h 218) t = k ∨ k = 0 ∨ (cK (h 218) t = 3 ∧ k = 1)
      · exact OP.q0 I (by rw [X1, if_pos c]) (by show f_X9_as h 217 (nI t) (nI k) = _; rw [M1 h rfl, if_pos c])
      · exact OP.f0 I (by rw [X1, if_neg c]) (fun g e => by show f_X9_as g 217 (nI t) (nI k) = _; rw [M1 g (e 218 (by decide)), if_neg c])
    · refine OP.f0 (c := -100001) I ?_ (fun g e => ?_)
      · unfold f_X8_as f_X8_as_J19
        rw [f00.1, x_hasTale_t I.x0 n2 ht]
        simp only [ob, i1f, eq_self, if_true, if_false]
        rw [nl4, x_out hb (by decide)]
        simp only [ob, i1f, eq_self, if_true, if_false]
        rfl
      · show f_X9_as g 217 (nI t) b = _
        unfold f_X9_as f_X9_as_J17
        rw [m_isTale_t (n := cN (h 218)) (by rw [e 218 (by decide)]; exact v.n.1) n2 ht]
        simp only [ob, i1f, eq_self, if_true, if_false]
        rw [nl3, m_out hb (by decide)]
        simp only [ob, i1f, eq_self, if_true, if_false]
        rfl
  · refine OP.f0 (c := -100001) I ?_ (fun g e => ?_)
    · unfold f_X8_as f_X8_as_J19
      rw [f00.1, x_hasTale_f I.x0 n2 ha]
      simp only [ob, i1f, eq_self, if_true, if_false]
      rfl
    · show f_X9_as g 217 a b = _
      unfold f_X9_as f_X9_as_J17
      rw [m_isTale_f (n := cN (h 218)) (by rw [e 218 (by decide)]; exact v.n.1) n2 ha]
      simp only [ob, i1f, eq_self, if_true, if_false]
      rfl
theorem x_hasStep_t {h : tkH} (I : Inv h) {t i : Nat} (ht : t < cN (h 218)) (hi : i < cL (h 218) t) : f_X0_hasStep h 1 (nI t) (nI i) = some (1, h) := by
  have l := I.1.l ht
  have n := I.1.n.2
  unfold f_X0_hasStep
  rw [x_hasTale_t I.x0 n ht]
  simp only [ob, i1f, eq_self, if_true, if_false]
  rw [show fld 1 5 = 6 by simp only [FL], rdI_n (by simp only [LN]; omega) (by simp only [LN]; decide)]
  simp only [ob, i1f, eq_self, if_true, if_false]
  rw [(I.2.1.2.1 t ht).2.2.2.2.1, l.1, x_in hi (by omega)]
  simp only [ob, i1f, eq_self, if_true, if_false]
theorem x_hasStep_f {h : tkH} (I : Inv h) {a b : Int32} (hab : ¬ ∃ t i, t < cN (h 218) ∧ i < cL (h 218) t ∧ a = nI t ∧ b = nI i) : f_X0_hasStep h 1 a b = some (0, h) := by
  have n := I.1.n.2
  unfold f_X0_hasStep
  by_cases ha : ∃ t, t < cN (h 218) ∧ a = nI t
  · obtain ⟨t, ht, rfl⟩ := ha
    have l := I.1.l ht
    rw [x_hasTale_t I.x0 n ht]
    simp only [ob, i1f, eq_self, if_true, if_false]
    rw [show fld 1 5 = 6 by simp only [FL], rdI_n (by simp only [LN]; omega) (by simp only [LN]; decide)]
    simp only [ob, i1f, eq_self, if_true, if_false]
    rw [(I.2.1.2.1 t ht).2.2.2.2.1, l.1, x_out (fun q => ?_) (by omega)]
    simp only [ob, i1f, eq_self, if_true, if_false]
    obtain ⟨i, hi, e⟩ := q
    exact hab ⟨t, i, ht, hi, rfl, e⟩
  · rw [x_hasTale_f I.x0 n ha]
    simp only [ob, i1f, eq_self, if_true, if_false]
theorem m_isStep_t {g : tkH} {f : Nat → Int32} (v : Vd f) (e : g 218 = f) {t i : Nat} (ht : t < cN f) (hi : i < cL f t) : f_X9_isStep g 217 (nI t) (nI i) = some (1, g) := by
  have l := v.l ht
  have n := v.n
  unfold f_X9_isStep
  rw [m_isTale_t (n := cN f) (by rw [e]; exact n.1) n.2 ht]
  simp only [ob, i1f, eq_self, if_true, if_false]
  rw [show fld 217 0 = 218 by simp only [FL], nl70, nI_add, r218 (by omega)]
  simp only [ob, i1f, eq_self, if_true, if_false]
  rw [e, l.1, m_inP hi (by omega)]
  simp only [ob, i1f, eq_self, if_true, if_false]
theorem m_isStep_f {g : tkH} {f : Nat → Int32} (v : Vd f) (e : g 218 = f) {a b : Int32} (hab : ¬ ∃ t i, t < cN f ∧ i < cL f t ∧ a = nI t ∧ b = nI i) : f_X9_isStep g 217 a b = some (0, g) := by
  have n := v.n
  unfold f_X9_isStep
  by_cases ha : ∃ t, t < cN f ∧ a = nI t
  · obtain ⟨t, ht, rfl⟩ := ha
    have l := v.l ht
    rw [m_isTale_t (n := cN f) (by rw [e]; exact n.1) n.2 ht]
    simp only [ob, i1f, eq_self, if_true, if_false]
    rw [show fld 217 0 = 218 by simp only [FL], nl70, nI_add, r218 (by omega)]
    simp only [ob, i1f, eq_self, if_true, if_false]
    rw [e, l.1, m_outP (fun q => ?_) (by omega)]
    simp only [ob, i1f, eq_self, if_true, if_false]
    obtain ⟨i, hi, e⟩ := q
    exact hab ⟨t, i, ht, hi, rfl, e⟩
  · rw [m_isTale_f (n := cN f) (by rw [e]; exact n.1) n.2 ha]
    simp only [ob, i1f, eq_self, if_true, if_false]
theorem op_of {h : tkH} (I : Inv h) (a b c : Int32) : OP (f_X8_of h 0 a b c) (fun g => f_X9_of g 217 a b c) := by
  have v := I.1
  have n2 := v.n.2
  by_cases hab : ∃ t i, t < cN (h 218) ∧ i < cL (h 218) t ∧ a = nI t ∧ b = nI i
  · obtain ⟨t, i, ht, hi, rfl, rfl⟩ := hab
    have l := (v.l ht).2
    by_cases hc : ∃ w, w < 3 ∧ c = nI w
    · obtain ⟨w, hw, rfl⟩ := hc
      have s0 := v.s0 ht hi
      have s1 := v.s1 ht hi
      have s2 := v.s2 ht hi
      have P := pk_all s0.2 s1.2 s2.2
      refine OP.q0 (r := nI (cS (h 218) t i w)) I ?_ ?_
      · unfold f_X8_of
        rw [f00.1, x_hasStep_t I ht hi]
        simp only [ob, i1f, eq_self, if_true, if_false]
        rw [nl3, x_in hw (by decide)]
        simp only [ob, i1f, eq_self, if_true, if_false]
        rw [x_stepAt (by omega) (by omega)]
        simp only [ob, i1f, eq_self, if_true, if_false]
        rw [I.2.1.st v ht hi]
        unfold f_X8_motifOf f_X8_whoOf f_X8_whomOf sc
        rw [P.2.1, P.2.2.1, P.2.2.2]
        rcases (by omega : w = 0 ∨ w = 1 ∨ w = 2) with rfl | rfl | rfl
        · rw [if_pos (show nI 0 = 0 from rfl)]
          rfl
        · rw [if_neg (by decide), if_pos (show nI 1 = 1 from rfl)]
          rfl
        · rw [if_neg (by decide), if_neg (by decide)]
          rfl
      · show f_X9_of h 217 (nI t) (nI i) (nI w) = _
        unfold f_X9_of
        rw [m_isStep_t v rfl ht hi]
        simp only [ob, i1f, eq_self, if_true, if_false]
        rw [nl2, m_in (n := 2) (by omega) (by decide)]
        simp only [ob, i1f, eq_self, if_true, if_false]
        rw [m_stepOf (by omega) (by omega) hw]
        simp only [ob, i1f, eq_self, if_true, if_false]
        rcases (by omega : w = 0 ∨ w = 1 ∨ w = 2) with rfl | rfl | rfl
        · rw [Nat.add_zero, s0.1]
        · rw [s1.1]
        · rw [s2.1]
    · refine OP.f0 (c := -100001) I ?_ (fun g e => ?_)
      · unfold f_X8_of f_X8_of_J20
        rw [f00.1, x_hasStep_t I ht hi]
        simp only [ob, i1f, eq_self, if_true, if_false]
        rw [nl3, x_out hc (by decide)]
        simp only [ob, i1f, eq_self, if_true, if_false]
        rfl
      · show f_X9_of g 217 (nI t) (nI i) c = _
        unfold f_X9_of f_X9_of_J28
        rw [m_isStep_t v (e 218 (by decide)) ht hi]
        simp only [ob, i1f, eq_self, if_true, if_false]
        rw [nl2, m_out hc (by decide)]
        simp only [ob, i1f, eq_self, if_true, if_false]
        rfl
  · refine OP.f0 (c := -100001) I ?_ (fun g e => ?_)
    · unfold f_X8_of f_X8_of_J20
      rw [f00.1, x_hasStep_f I hab]
      simp only [ob, i1f, eq_self, if_true, if_false]
      rfl
    · show f_X9_of g 217 a b c = _
      unfold f_X9_of f_X9_of_J28
      rw [m_isStep_f v (e 218 (by decide)) hab]
      simp only [ob, i1f, eq_self, if_true, if_false]
      rfl
theorem op_told {h : tkH} (I : Inv h) (a b : Int32) : OP (f_X8_told h 0 a b) (fun g => f_X9_told g 217 a b) := by
  have v := I.1
  have n2 := v.n.2
  by_cases ha : ∃ t, t < cN (h 218) ∧ a = nI t
  · obtain ⟨t, ht, rfl⟩ := ha
    have rr := I.2.1.2.1 t ht
    have r2 : rdI h 2 (nI t) = some (h 2 t) := rdI_n (by simp only [LN]; omega) (by simp only [LN]; decide)
    have r3 : rdI h 3 (nI t) = some (h 3 t) := rdI_n (by simp only [LN]; omega) (by simp only [LN]; decide)
    have r4 : rdI h 4 (nI t) = some (h 4 t) := rdI_n (by simp only [LN]; omega) (by simp only [LN]; decide)
    have r5 : rdI h 5 (nI t) = some (h 5 t) := rdI_n (by simp only [LN]; omega) (by simp only [LN]; decide)
    have r6 : rdI h 6 (nI t) = some (h 6 t) := rdI_n (by simp only [LN]; omega) (by simp only [LN]; decide)
    have F : fld 1 1 = 2 ∧ fld 1 2 = 3 ∧ fld 1 3 = 4 ∧ fld 1 4 = 5 ∧ fld 1 5 = 6 := by simp only [FL]; decide
    by_cases hb : ∃ w, w < 6 ∧ b = nI w
    · obtain ⟨w, hw, rfl⟩ := hb
      have MM : ∀ r : Int32, (if nI w = 4 then (f_X9_laidTo h 217 (nI t)).bind fun x31 => (f_X9_laidFrom x31.2 217 (nI t)).bind fun x36 => some (x31.1 - x36.1, x36.2) else if nI w = nI 5 then (rdI h 218 (80 + nI t)).bind fun v56 => some (v56, h) else (rdI h 218 ((40 + 10 * nI w) + nI t)).bind fun v73 => some (v73, h)) = some (r, h) → f_X9_told h 217 (nI t) (nI w) = some (r, h) := by
        intro r hr
        unfold f_X9_told
        rw [m_isTale_t v.n.1 n2 ht]
        simp only [ob, i1f, eq_self, if_true, if_false]
        rw [nl5, m_in (n := 5) (by omega) (by decide)]
        simp only [ob, i1f, eq_self, if_true, if_false]
        rw [show fld 217 0 = 218 by simp only [FL]]
        exact hr
      have XX : ∀ r : Int32, (if nI w = 0 then (rdI h 2 (nI t)).bind fun v64 => some (v64, h) else if nI w = 1 then (rdI h 3 (nI t)).bind fun v74 => some (v74, h) else if nI w = 2 then (rdI h 4 (nI t)).bind fun v84 => some (v84, h) else if nI w = 3 then (rdI h 6 (nI t)).bind fun v94 => some (v94, h) else if nI w = 4 then (f_X0_laidLength h 1 (nI t)).bind fun x101 => some (x101.1, x101.2) else if nI w = 5 then (rdI h 5 (nI t)).bind fun v113 => some (v113, h) else (f_X8_finding h 0 (-100001)).bind fun x118 => some (x118.1, x118.2)) = some (r, h) → f_X8_told h 0 (nI t) (nI w) = some (r, h) := by
        intro r hr
        unfold f_X8_told
        rw [f00.1, x_hasTale_t I.x0 n2 ht]
        simp only [ob, i1f, eq_self, if_true, if_false]
        rw [F.1, F.2.1, F.2.2.1, F.2.2.2.1, F.2.2.2.2]
        exact hr
      rcases (by omega : w = 0 ∨ w = 1 ∨ w = 2 ∨ w = 3 ∨ w = 4 ∨ w = 5) with rfl | rfl | rfl | rfl | rfl | rfl
      · refine OP.q0 (r := h 218 (40 + t)) I (XX _ ?_) (MM _ ?_)
        · rw [if_pos (show nI 0 = 0 from rfl), r2, ob, rr.1]
        · rw [if_neg (by decide), if_neg (by decide), nl40, nl10, pk_mul, nI_add, nI_add, r218 (by omega), ob]
      · refine OP.q0 (r := h 218 (50 + t)) I (XX _ ?_) (MM _ ?_)
        · rw [if_neg (by decide), if_pos (show nI 1 = 1 from rfl), r3, ob, rr.2.1]
        · rw [if_neg (by decide), if_neg (by decide), nl40, nl10, pk_mul, nI_add, nI_add, r218 (by omega), ob]
      · refine OP.q0 (r := h 218 (60 + t)) I (XX _ ?_) (MM _ ?_)
        · rw [if_neg (by decide), if_neg (by decide), if_pos (show nI 2 = 2 from rfl), r4, ob, rr.2.2.1]
        · rw [if_neg (by decide), if_neg (by decide), nl40, nl10, pk_mul, nI_add, nI_add, r218 (by omega), ob]
      · refine OP.q0 (r := h 218 (70 + t)) I (XX _ ?_) (MM _ ?_)
        · rw [if_neg (by decide), if_neg (by decide), if_neg (by decide), if_pos (show nI 3 = 3 from rfl), r6, ob, rr.2.2.2.2.1]
        · rw [if_neg (by decide), if_neg (by decide), nl40, nl10, pk_mul, nI_add, nI_add, r218 (by omega), ob]
      · refine OP.q0 (r := nI (to_ (h 218) t - fr (h 218) t)) I (XX _ ?_) (MM _ ?_)
        · rw [if_neg (by decide), if_neg (by decide), if_neg (by decide), if_neg (by decide), if_pos (show nI 4 = 4 from rfl), x_laidLength I.2.1 v ht, ob]
        · rw [if_pos (show nI 4 = 4 from rfl), m_laidTo v ht]
          simp only [ob, i1f, eq_self, if_true, if_false]
          rw [m_laidFrom v ht]
          simp only [ob, i1f, eq_self, if_true, if_false]
          rw [pk_sub fr_le.1]
      · refine OP.q0 (r := h 218 (80 + t)) I (XX _ ?_) (MM _ ?_)
        · rw [if_neg (by decide), if_neg (by decide), if_neg (by decide), if_neg (by decide), if_neg (by decide), if_pos (show nI 5 = 5 from rfl), r5, ob, rr.2.2.2.1]
        · rw [if_neg (by decide), if_pos rfl, nl80, nI_add, r218 (by omega), ob]
    · refine OP.f0 (c := -100001) I ?_ (fun g e => ?_)
      · unfold f_X8_told
        rw [f00.1, x_hasTale_t I.x0 n2 ht]
        simp only [ob, i1f, eq_self, if_true, if_false]
        rw [if_neg (show ¬ b = 0 from fun q => hb ⟨0, by decide, q⟩), if_neg (show ¬ b = 1 from fun q => hb ⟨1, by decide, q⟩), if_neg (show ¬ b = 2 from fun q => hb ⟨2, by decide, q⟩), if_neg (show ¬ b = 3 from fun q => hb ⟨3, by decide, q⟩), if_neg (show ¬ b = 4 from fun q => hb ⟨4, by decide, q⟩), if_neg (show ¬ b = 5 from fun q => hb ⟨5, by decide, q⟩)]
        rfl
      · show f_X9_told g 217 (nI t) b = _
        unfold f_X9_told f_X9_told_J17
        rw [m_isTale_t (n := cN (h 218)) (by rw [e 218 (by decide)]; exact v.n.1) n2 ht]
        simp only [ob, i1f, eq_self, if_true, if_false]
        rw [nl5, m_out hb (by decide)]
        simp only [ob, i1f, eq_self, if_true, if_false]
        rfl
  · refine OP.f0 (c := -100001) I ?_ (fun g e => ?_)
    · unfold f_X8_told
      rw [f00.1, x_hasTale_f I.x0 n2 ha]
      simp only [ob, i1f, eq_self, if_true, if_false]
      rfl
    · show f_X9_told g 217 a b = _
      unfold f_X9_told f_X9_told_J17
      rw [m_isTale_f (n := cN (h 218)) (by rw [e 218 (by decide)]; exact v.n.1) n2 ha]
      simp only [ob, i1f, eq_self, if_true, if_false]
      rfl
theorem op_cost {h : tkH} (I : Inv h) (a b : Int32) : OP (f_X8_cost h 0 a b) (fun g => f_X9_cost g 217 a b) := by
  have v := I.1
  have n2 := v.n.2
  by_cases ha : ∃ t, t < cN (h 218) ∧ a = nI t
  · obtain ⟨t, ht, rfl⟩ := ha
    by_cases hb : ∃ u, u < cN (h 218) ∧ b = nI u
    · obtain ⟨u, hu, rfl⟩ := hb
      obtain ⟨h1, a1, a2, a3, a4, a5⟩ := x_between I.2.1 v I.2.2.2.2.1 ht hu
      have e218 : h1 218 = h 218 := a1 218 (by omega)
      obtain ⟨h2, b1, b2, b3, b4⟩ := m_costOf (h := h1) (a := t) (b := u) (by rw [e218]; exact v) (by rw [e218]; exact ht) (by rw [e218]; exact hu)
      rw [e218] at b4
      refine OP.q (h1 := h1) (h2 := h2) (r := nI (cst (h 218) t u).1) I ?_ ?_ a1.p a2 b1
      · unfold f_X8_cost
        rw [f00.1, f00.2.2.1, x_hasTale_t I.x0 n2 ht]
        simp only [ob, i1f, eq_self, if_true, if_false]
        rw [x_hasTale_t I.x0 n2 hu]
        simp only [ob, i1f, eq_self, if_true, if_false]
        rw [a5]
        simp only [ob, i1f, eq_self, if_true, if_false]
      · show f_X9_cost h1 217 (nI t) (nI u) = _
        unfold f_X9_cost
        rw [m_isTale_t (n := cN (h 218)) (by rw [e218]; exact v.n.1) n2 ht]
        simp only [ob, i1f, eq_self, if_true, if_false]
        rw [m_isTale_t (n := cN (h 218)) (by rw [e218]; exact v.n.1) n2 hu]
        simp only [ob, i1f, eq_self, if_true, if_false]
        rw [b4]
        simp only [ob, i1f, eq_self, if_true, if_false]
    · refine OP.f0 (c := -100001) I ?_ (fun g e => ?_)
      · unfold f_X8_cost f_X8_cost_J22
        rw [f00.1, x_hasTale_t I.x0 n2 ht]
        simp only [ob, i1f, eq_self, if_true, if_false]
        rw [x_hasTale_f I.x0 n2 hb]
        simp only [ob, i1f, eq_self, if_true, if_false]
        rfl
      · show f_X9_cost g 217 (nI t) b = _
        unfold f_X9_cost f_X9_cost_J25
        rw [m_isTale_t (n := cN (h 218)) (by rw [e 218 (by decide)]; exact v.n.1) n2 ht]
        simp only [ob, i1f, eq_self, if_true, if_false]
        rw [m_isTale_f (n := cN (h 218)) (by rw [e 218 (by decide)]; exact v.n.1) n2 hb]
        simp only [ob, i1f, eq_self, if_true, if_false]
        rfl
  · refine OP.f0 (c := -100001) I ?_ (fun g e => ?_)
    · unfold f_X8_cost f_X8_cost_J22
      rw [f00.1, x_hasTale_f I.x0 n2 ha]
      simp only [ob, i1f, eq_self, if_true, if_false]
      rfl
    · show f_X9_cost g 217 a b = _
      unfold f_X9_cost f_X9_cost_J25
      rw [m_isTale_f (n := cN (h 218)) (by rw [e 218 (by decide)]; exact v.n.1) n2 ha]
      simp only [ob, i1f, eq_self, if_true, if_false]
      rfl
theorem op_carried {h : tkH} (I : Inv h) (a b c : Int32) : OP (f_X8_carried h 0 a b c) (fun g => f_X9_carried g 217 a b c) := by
  have v := I.1
  have n2 := v.n.2
  by_cases ha : ∃ t, t < cN (h 218) ∧ a = nI t
  · obtain ⟨t, ht, rfl⟩ := ha
    by_cases hb : ∃ u, u < cN (h 218) ∧ b = nI u
    · obtain ⟨u, hu, rfl⟩ := hb
      by_cases hc : ∃ r, r < 4 ∧ c = nI r
      · obtain ⟨r, hr, rfl⟩ := hc
        obtain ⟨h1, a1, a2, a3⟩ := x_layTales I.2.1 v ht hu
        have e218 : h1 218 = h 218 := a1.f
        obtain ⟨h2, b1, b2, b3, b4⟩ := m_costOf (h := h1) (a := t) (b := u) (by rw [e218]; exact v) (by rw [e218]; exact ht) (by rw [e218]; exact hu)
        rw [e218] at b3 b4
        have ck := (cst_le v ht hu).2
        have C := MC_crs (h := h2) ck
        have m2 : MF h2 (crs h2 (cst (h 218) t u).2) := ⟨fun q e => crs_a (by omega), by rw [crs_a (by decide)], by rw [crs_a (by decide)]⟩
        refine OP.q (h1 := h1) (h2 := crs h2 (cst (h 218) t u).2) (r := nI (pm (cst (h 218) t u).2 r)) I ?_ ?_ a1.p (I.2.2.2.2.1.keep a1.c) (b1.tr m2)
        · unfold f_X8_carried
          rw [f00.1, f00.2.2.1, x_hasTale_t I.x0 n2 ht]
          simp only [ob, i1f, eq_self, if_true, if_false]
          rw [x_hasTale_t I.x0 n2 hu]
          simp only [ob, i1f, eq_self, if_true, if_false]
          rw [nl4, x_in hr (by decide)]
          simp only [ob, i1f, eq_self, if_true, if_false]
          rw [a3]
          simp only [ob, i1f, eq_self, if_true, if_false]
          rw [show gk 193 7 = some () from by unfold gk; rw [KD.2, if_pos rfl]]
          simp only [ob, i1f, eq_self, if_true, if_false]
          rw [a2.2.2.2.2, x_goal ck hr]
          simp only [ob, i1f, eq_self, if_true, if_false]
        · show f_X9_carried h1 217 (nI t) (nI u) (nI r) = _
          unfold f_X9_carried f_X9_isRole
          rw [m_isTale_t (n := cN (h 218)) (by rw [e218]; exact v.n.1) n2 ht]
          simp only [ob, i1f, eq_self, if_true, if_false]
          rw [m_isTale_t (n := cN (h 218)) (by rw [e218]; exact v.n.1) n2 hu]
          simp only [ob, i1f, eq_self, if_true, if_false]
          rw [nl3, m_in (n := 3) (by omega) (by decide)]
          simp only [ob, i1f, eq_self, if_true, if_false]
          rw [bz_1]
          simp only [ob, i1f, eq_self, if_true, if_false]
          rw [b4]
          simp only [ob, i1f, eq_self, if_true, if_false]
          rw [b3, m_carry ck, ob, show fld 217 7 = 223 by simp only [FL], r223 C hr, ob]
      · refine OP.f0 (c := -100001) I ?_ (fun g e => ?_)
        · unfold f_X8_carried f_X8_carried_J30
          rw [f00.1, x_hasTale_t I.x0 n2 ht]
          simp only [ob, i1f, eq_self, if_true, if_false]
          rw [x_hasTale_t I.x0 n2 hu]
          simp only [ob, i1f, eq_self, if_true, if_false]
          rw [nl4, x_out hc (by decide)]
          simp only [ob, i1f, eq_self, if_true, if_false]
          rfl
        · show f_X9_carried g 217 (nI t) (nI u) c = _
          unfold f_X9_carried f_X9_carried_J23 f_X9_isRole
          rw [m_isTale_t (n := cN (h 218)) (by rw [e 218 (by decide)]; exact v.n.1) n2 ht]
          simp only [ob, i1f, eq_self, if_true, if_false]
          rw [m_isTale_t (n := cN (h 218)) (by rw [e 218 (by decide)]; exact v.n.1) n2 hu]
          simp only [ob, i1f, eq_self, if_true, if_false]
          rw [nl3, m_out hc (by decide)]
          simp only [ob, i1f, eq_self, if_true, if_false]
          rw [bz_0]
          simp only [ob, i1f, eq_self, if_true, if_false]
          rfl
    · refine OP.f0 (c := -100001) I ?_ (fun g e => ?_)
      · unfold f_X8_carried f_X8_carried_J30
        rw [f00.1, x_hasTale_t I.x0 n2 ht]
        simp only [ob, i1f, eq_self, if_true, if_false]
        rw [x_hasTale_f I.x0 n2 hb]
        simp only [ob, i1f, eq_self, if_true, if_false]
        rfl
      · show f_X9_carried g 217 (nI t) b c = _
        unfold f_X9_carried f_X9_carried_J23
        rw [m_isTale_t (n := cN (h 218)) (by rw [e 218 (by decide)]; exact v.n.1) n2 ht]
        simp only [ob, i1f, eq_self, if_true, if_false]
        rw [m_isTale_f (n := cN (h 218)) (by rw [e 218 (by decide)]; exact v.n.1) n2 hb]
        simp only [ob, i1f, eq_self, if_true, if_false]
        rfl
  · refine OP.f0 (c := -100001) I ?_ (fun g e => ?_)
    · unfold f_X8_carried f_X8_carried_J30
      rw [f00.1, x_hasTale_f I.x0 n2 ha]
      simp only [ob, i1f, eq_self, if_true, if_false]
      rfl
    · show f_X9_carried g 217 a b c = _
      unfold f_X9_carried f_X9_carried_J23
      rw [m_isTale_f (n := cN (h 218)) (by rw [e 218 (by decide)]; exact v.n.1) n2 ha]
      simp only [ob, i1f, eq_self, if_true, if_false]
      rfl
