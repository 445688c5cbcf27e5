/-! step, tale -/
theorem x_isStep_t {h : tkH} {m w u : Nat} (hm : m < 16) (hw : w < 4) (hu : u < 4) : f_X8_isStep h (nI m) (nI w) (nI u) = some (1, h) := by
  unfold f_X8_isStep
  rw [nl16, x_in hm (by decide)]
  simp only [ob, i1f, eq_self, if_true, if_false]
  rw [nl4, x_in hw (by decide)]
  simp only [ob, i1f, eq_self, if_true, if_false]
  rw [x_in hu (by decide)]
  simp only [ob, i1f, eq_self, if_true, if_false]
theorem x_isStep_f {h : tkH} {a b c : Int32} (hn : ¬ ((∃ m, m < 16 ∧ a = nI m) ∧ (∃ w, w < 4 ∧ b = nI w) ∧ ∃ u, u < 4 ∧ c = nI u)) : f_X8_isStep h a b c = some (0, h) := by
  unfold f_X8_isStep
  by_cases h1 : ∃ m, m < 16 ∧ a = nI m
  · obtain ⟨m, hm, rfl⟩ := h1
    rw [nl16, x_in hm (by decide)]
    simp only [ob, i1f, eq_self, if_true, if_false]
    by_cases h2 : ∃ w, w < 4 ∧ b = nI w
    · obtain ⟨w, hw, rfl⟩ := h2
      rw [nl4, x_in hw (by decide)]
      simp only [ob, i1f, eq_self, if_true, if_false]
      rw [x_out (fun q => hn ⟨⟨m, hm, rfl⟩, ⟨w, hw, rfl⟩, q⟩) (by decide)]
      simp only [ob, i1f, eq_self, if_true, if_false]
    · rw [nl4, x_out h2 (by decide)]
      simp only [ob, i1f, eq_self, if_true, if_false]
  · rw [nl16, x_out h1 (by decide)]
    simp only [ob, i1f, eq_self, if_true, if_false]
theorem m_isMotif_t {g : tkH} {m : Nat} (hm : m < 16) : f_X9_isMotif g (nI m) = some (1, g) := by
  unfold f_X9_isMotif
  rw [nl15, m_in (n := 15) (by omega) (by decide)]
  simp only [ob, i1f, eq_self, if_true, if_false]
  rw [bz_1]
  simp only [ob, i1f, eq_self, if_true, if_false]
theorem m_isMotif_f {g : tkH} {a : Int32} (hm : ¬ ∃ m, m < 16 ∧ a = nI m) : f_X9_isMotif g a = some (0, g) := by
  unfold f_X9_isMotif
  rw [nl15, m_out hm (by decide)]
  simp only [ob, i1f, eq_self, if_true, if_false]
  rw [bz_0]
  simp only [ob, i1f, eq_self, if_true, if_false]
theorem m_isRole_t {g : tkH} {m : Nat} (hm : m < 4) : f_X9_isRole g (nI m) = some (1, g) := by
  unfold f_X9_isRole
  rw [nl3, m_in (n := 3) (by omega) (by decide)]
  simp only [ob, i1f, eq_self, if_true, if_false]
  rw [bz_1]
  simp only [ob, i1f, eq_self, if_true, if_false]
theorem m_isRole_f {g : tkH} {a : Int32} (hm : ¬ ∃ m, m < 4 ∧ a = nI m) : f_X9_isRole g a = some (0, g) := by
  unfold f_X9_isRole
  rw [nl3, m_out hm (by decide)]
  simp only [ob, i1f, eq_self, if_true, if_false]
  rw [bz_0]
  simp only [ob, i1f, eq_self, if_true, if_false]
theorem m_step_f {g : tkH} {f : Nat → Int32} (v : Vd f) (e : g 218 = f) {a b c d : Int32} (hn : ¬ ((∃ t, t < cN f ∧ a = nI t) ∧ (∃ m, m < 16 ∧ b = nI m) ∧ (∃ w, w < 4 ∧ c = nI w) ∧ ∃ u, u < 4 ∧ d = nI u)) : f_X9_step g 217 a b c d = some (-100001, tkup g 217 3 (g 217 3 + 1)) := by
  have n := v.n
  unfold f_X9_step f_X9_step_J30
  by_cases h0 : ∃ t, t < cN f ∧ a = nI t
  · obtain ⟨t, ht, rfl⟩ := h0
    rw [m_isTale_t (n := cN f) (by rw [e]; exact n.1) n.2 ht]
    simp only [ob, i1f, eq_self, if_true, if_false]
    by_cases h1 : ∃ m, m < 16 ∧ b = nI m
    · obtain ⟨m, hm, rfl⟩ := h1
      rw [m_isMotif_t hm]
      simp only [ob, i1f, eq_self, if_true, if_false]
      by_cases h2 : ∃ w, w < 4 ∧ c = nI w
      · obtain ⟨w, hw, rfl⟩ := h2
        rw [m_isRole_t hw]
        simp only [ob, i1f, eq_self, if_true, if_false]
        rw [m_isRole_f (fun q => hn ⟨⟨t, ht, rfl⟩, ⟨m, hm, rfl⟩, ⟨w, hw, rfl⟩, q⟩)]
        simp only [ob, i1f, eq_self, if_true, if_false]
        rfl
      · rw [m_isRole_f h2]
        simp only [ob, i1f, eq_self, if_true, if_false]
        rfl
    · rw [m_isMotif_f h1]
      simp only [ob, i1f, eq_self, if_true, if_false]
      rfl
  · rw [m_isTale_f (n := cN f) (by rw [e]; exact n.1) n.2 h0]
    simp only [ob, i1f, eq_self, if_true, if_false]
    rfl
theorem op_step {h : tkH} (I : Inv h) (a b c d : Int32) : OP (f_X8_step h 0 a b c d) (fun g => f_X9_step g 217 a b c d) := by
  have v := I.1
  have n2 := v.n.2
  have l6 : ln 6 = 10 := by simp only [LN]
  have l7 : ln 7 = 100 := by simp only [LN]
  by_cases hA : (∃ t, t < cN (h 218) ∧ a = nI t) ∧ (∃ m, m < 16 ∧ b = nI m) ∧ (∃ w, w < 4 ∧ c = nI w) ∧ ∃ u, u < 4 ∧ d = nI u
  · obtain ⟨⟨t, ht, rfl⟩, ⟨m, hm, rfl⟩, ⟨w, hw, rfl⟩, ⟨u, hu, rfl⟩⟩ := hA
    have l := v.l ht
    have e6 : h 6 t = nI (cL (h 218) t) := by rw [← l.1]; exact (I.2.1.2.1 t ht).2.2.2.2.1
    by_cases hz : cL (h 218) t = 10
    · refine OP.f0 (c := -100005) I ?_ (fun g e => ?_)
      · unfold f_X8_step
        rw [f00.1, x_hasTale_t I.x0 n2 ht]
        simp only [ob, i1f, eq_self, if_true, if_false]
        rw [x_isStep_t hm hw hu]
        simp only [ob, i1f, eq_self, if_true, if_false]
        rw [show fld 1 5 = 6 by simp only [FL], rdI_n (by omega) (by omega), ob, e6, hz, if_neg (by decide)]
        rfl
      · show f_X9_step g 217 (nI t) (nI m) (nI w) (nI u) = _
        unfold f_X9_step
        rw [m_isTale_t (n := cN (h 218)) (by rw [e 218 (by decide)]; exact v.n.1) n2 ht]
        simp only [ob, i1f, eq_self, if_true, if_false]
        rw [m_isMotif_t hm]
        simp only [ob, i1f, eq_self, if_true, if_false]
        rw [m_isRole_t hw]
        simp only [ob, i1f, eq_self, if_true, if_false]
        rw [m_isRole_t hu]
        simp only [ob, i1f, eq_self, if_true, if_false]
        rw [show fld 217 0 = 218 by simp only [FL], nl70, nI_add, r218 (by omega), ob, e 218 (by decide), l.1, hz, if_pos (show nI 10 = 10 from rfl)]
        rfl
    · obtain ⟨h1, k1, k2, K⟩ := mutK I
      generalize hgl : cL (h 218) t = L at *
      have L9 : L < 10 := by omega
      obtain ⟨h2, c1, c2, c3⟩ := x_forget (g := tkup (tkup h1 7 (10 * t + L) (pk3 (nI m) (nI w) (nI u))) 6 t (nI (L + 1))) (t := t) (by omega)
      obtain ⟨hk, m1, m2, m3, m4⟩ := K h2 (fun z g1 g2 => by rw [c1 z g2, up_a (by omega), up_a (by omega)]) (by rw [c1 0 (by decide), up_a (by decide), up_a (by decide)])
      have e61 : h1 6 = h 6 := k2 6 (by omega)
      have e71 : h1 7 = h 7 := k2 7 (by omega)
      refine ⟨nI (L + 1), h2, tkup (tkup (tkup (tkup hk 218 (90 + 3 * (10 * t + L)) (nI m)) 218 (90 + 3 * (10 * t + L) + 1) (nI w)) 218 (90 + 3 * (10 * t + L) + 2) (nI u)) 218 (70 + t) (nI (L + 1)), ?_, ?_, m4 _ (fun q e => by rw [up_a e, up_a e, up_a e, up_a e]) ?_ ?_ ?_⟩
      · unfold f_X8_step f_X0_addStep f_X8_packed
        rw [f00.1, f00.2.1, f00.2.2.1, x_hasTale_t I.x0 n2 ht]
        simp only [ob, i1f, eq_self, if_true, if_false]
        rw [x_isStep_t hm hw hu]
        simp only [ob, i1f, eq_self, if_true, if_false]
        rw [show fld 1 5 = 6 by simp only [FL], show fld 1 6 = 7 by simp only [FL], rdI_n (by omega) (by omega), ob, e6, if_pos (by rw [nl10, nI_ltI (by omega) (by omega)]; omega), k1, ob, rdI_n (by omega) (by omega), ob, e61, e6, nl10, pk_mul, nI_add, wrI_n (by omega) (by omega), ob, rdI_n (by omega) (by omega), ob, up_a (by decide), e61, e6, nI_1, wrI_n (by omega) (by omega), ob, ob, show t * 10 + L = 10 * t + L by omega]
        show (f_X2_forget (tkup (tkup h1 7 (10 * t + L) (pk3 (nI m) (nI w) (nI u))) 6 t (nI (L + 1))) 192 (nI t)).bind _ = _
        rw [c3, ob, rdI_n (by omega) (by omega), ob, c1 6 (by decide), up_s]
      · show f_X9_step h2 217 (nI t) (nI m) (nI w) (nI u) = _
        have e218 : h2 218 = h 218 := by rw [c1 218 (by decide), up_a (by decide), up_a (by decide), k2 218 (by omega)]
        unfold f_X9_step
        rw [m_isTale_t (n := cN (h 218)) (by rw [e218]; exact v.n.1) n2 ht]
        simp only [ob, i1f, eq_self, if_true, if_false]
        rw [m_isMotif_t hm]
        simp only [ob, i1f, eq_self, if_true, if_false]
        rw [m_isRole_t hw]
        simp only [ob, i1f, eq_self, if_true, if_false]
        rw [m_isRole_t hu]
        simp only [ob, i1f, eq_self, if_true, if_false]
        rw [show fld 217 0 = 218 by simp only [FL], nl70, nI_add, r218 (by omega), ob, e218, l.1, if_neg (show ¬ nI L = 10 from nIne (b := 10) (by omega) (by decide) hz), m1, ob, r218 (by omega), ob, m2, l.1, m_setStep (by omega) (by omega), ob, r218 (by omega), ob, up_i (by omega), up_i (by omega), up_i (by omega), m2, l.1, nI_1, w218 (by omega), ob, r218 (by omega), ob, up_s]
      · rw [up218, up218, up218, up218, m2]
        have b0 : bd (90 + 3 * (10 * t + L)) = 15 := by unfold bd; rw [if_neg (by omega), if_neg (by omega), if_neg (by omega), if_neg (by omega), if_neg (by omega), if_pos (by omega)]
        have b1 : bd (90 + 3 * (10 * t + L) + 1) = 3 := by unfold bd; rw [if_neg (by omega), if_neg (by omega), if_neg (by omega), if_neg (by omega), if_neg (by omega), if_neg (by omega)]
        have b2 : bd (90 + 3 * (10 * t + L) + 2) = 3 := by unfold bd; rw [if_neg (by omega), if_neg (by omega), if_neg (by omega), if_neg (by omega), if_neg (by omega), if_neg (by omega)]
        have V3 := ((v.up1 (k := 90 + 3 * (10 * t + L)) (x := nI m) (Or.inr (by omega)) (by rw [b0]; exact tN_of (by omega) (by decide))).up1 (k := 90 + 3 * (10 * t + L) + 1) (x := nI w) (Or.inr (by omega)) (by rw [b1]; exact tN_of (by omega) (by decide))).up1 (k := 90 + 3 * (10 * t + L) + 2) (x := nI u) (Or.inr (by omega)) (by rw [b2]; exact tN_of (by omega) (by decide))
        have eN3 : cN (upd (upd (upd (h 218) (90 + 3 * (10 * t + L)) (nI m)) (90 + 3 * (10 * t + L) + 1) (nI w)) (90 + 3 * (10 * t + L) + 2) (nI u)) = cN (h 218) := by unfold cN; rw [upd_n (by omega), upd_n (by omega), upd_n (by omega)]
        refine V3.len (by rw [eN3]; exact ht) (by omega) (fun i hi => ?_)
        by_cases e : i = L
        · subst e
          rw [upd_n (by omega), upd_n (by omega), upd_s, upd_n (by omega), upd_s, upd_s]
          exact ⟨tN_of (by omega) (by decide), tN_of (by omega) (by decide), tN_of (by omega) (by decide)⟩
        · rw [upd_n (by omega), upd_n (by omega), upd_n (by omega), upd_n (by omega), upd_n (by omega), upd_n (by omega), upd_n (by omega), upd_n (by omega), upd_n (by omega)]
          exact (v.2.2.2.1 t ht).2.2.2.2.2 i (by rw [hgl]; omega)
      · rw [up218, up218, up218, up218, m2]
        generalize hF : upd (upd (upd (upd (h 218) (90 + 3 * (10 * t + L)) (nI m)) (90 + 3 * (10 * t + L) + 1) (nI w)) (90 + 3 * (10 * t + L) + 2) (nI u)) (70 + t) (nI (L + 1)) = F
        have U : ∀ i, i ≠ 70 + t → (i < 90 + 3 * (10 * t + L) ∨ 90 + 3 * (10 * t + L) + 2 < i) → F i = h 218 i := fun i g1 g2 => by rw [← hF, upd_n g1, upd_n (by omega), upd_n (by omega), upd_n (by omega)]
        obtain ⟨x0, x1, x2, x3⟩ := I.2.1
        have eN : cN F = cN (h 218) := by unfold cN; rw [U 0 (by omega) (by omega)]
        have E : ∀ z, z ≠ 6 → z ≠ 7 → z ≤ 9 → h2 z = h z := fun z g1 g2 g3 => by rw [c1 z (by omega), up_a g1, up_a g2, k2 z (by omega)]
        refine ⟨by rw [E 1 (by omega) (by omega) (by omega), U 0 (by omega) (by omega)]; exact x0, fun s hs => ?_, fun i hi => by rw [E (1 + 7) (by omega) (by omega) (by omega), U _ (by omega) (by omega)]; exact x2 i hi, fun i hi => by rw [E (1 + 8) (by omega) (by omega) (by omega), U _ (by omega) (by omega)]; exact x3 i hi⟩
        rw [eN] at hs
        obtain ⟨y1, y2, y3, y4, y5, y6⟩ := x1 s hs
        have ls := (v.l hs).2
        refine ⟨by rw [E (1 + 1) (by omega) (by omega) (by omega), U _ (by omega) (by omega)]; exact y1, by rw [E (1 + 2) (by omega) (by omega) (by omega), U _ (by omega) (by omega)]; exact y2, by rw [E (1 + 3) (by omega) (by omega) (by omega), U _ (by omega) (by omega)]; exact y3, by rw [E (1 + 4) (by omega) (by omega) (by omega), U _ (by omega) (by omega)]; exact y4, ?_, fun i hi => ?_⟩
        · show h2 6 s = _
          rw [c1 6 (by decide)]
          by_cases e : s = t
          · subst e
            rw [up_s, ← hF, upd_s]
          · rw [up_i e, U _ (by omega) (by omega), up_a (by decide), e61]
            exact y5
        · show h2 7 (10 * s + i) = _
          rw [c1 7 (by decide), up_a (by decide)]
          by_cases e : s = t
          · subst e
            have hc : cL F s = L + 1 := by rw [← hF]; exact cL_upd (by omega)
            by_cases e2 : i = L
            · subst e2
              rw [up_s, ← hF, upd_n (by omega), upd_n (by omega), upd_n (by omega), upd_s, upd_n (by omega), upd_n (by omega), upd_s, upd_n (by omega), upd_s]
            · rw [up_i (by omega), U _ (by omega) (by omega), U _ (by omega) (by omega), U _ (by omega) (by omega), e71]
              exact y6 i (by omega)
          · have hc : cL F s = cL (h 218) s := by unfold cL; rw [U _ (by omega) (by omega)]
            rw [up_i (by omega), U _ (by omega) (by omega), U _ (by omega) (by omega), U _ (by omega) (by omega), e71]
            exact y6 i (by omega)
      · rw [up218, up218, up218, up218, m2]
        refine Ca.forget (t := t) (I.2.2.2.2.1.keep (hf := tkup (tkup h1 7 (10 * t + L) (pk3 (nI m) (nI w) (nI u))) 6 t (nI (L + 1))) (by rw [up_a (by decide), up_a (by decide), k2 201 (by omega)])) c2 (by unfold cN; rw [upd_n (by omega), upd_n (by omega), upd_n (by omega), upd_n (by omega)]) (fun a b ha hb hat hbt => ?_)
        have U : ∀ i, i ≠ 70 + t → (i < 90 + 3 * (10 * t + L) ∨ 90 + 3 * (10 * t + L) + 2 < i) → upd (upd (upd (upd (h 218) (90 + 3 * (10 * t + L)) (nI m)) (90 + 3 * (10 * t + L) + 1) (nI w)) (90 + 3 * (10 * t + L) + 2) (nI u)) (70 + t) (nI (L + 1)) i = h 218 i := fun i g1 g2 => by rw [upd_n g1, upd_n (by omega), upd_n (by omega), upd_n (by omega)]
        have la := (v.l ha).2
        have lb := (v.l hb).2
        rw [cst_congr (fun j hj => U _ (by omega) (by omega)) ⟨U _ (by omega) (by omega), U _ (by omega) (by omega), fun i w _ _ => U _ (by omega) (by omega)⟩ ⟨U _ (by omega) (by omega), U _ (by omega) (by omega), fun i w _ _ => U _ (by omega) (by omega)⟩]
  · refine OP.f0 (c := -100001) I ?_ (fun g e => m_step_f v (e 218 (by decide)) hA)
    unfold f_X8_step f_X8_step_J21
    by_cases ha : ∃ t, t < cN (h 218) ∧ a = nI t
    · obtain ⟨t, ht, rfl⟩ := ha
      rw [f00.1, x_hasTale_t I.x0 n2 ht]
      simp only [ob, i1f, eq_self, if_true, if_false]
      rw [x_isStep_f (fun q => hA ⟨⟨t, ht, rfl⟩, q⟩)]
      simp only [ob, i1f, eq_self, if_true, if_false]
      rfl
    · rw [f00.1, x_hasTale_f I.x0 n2 ha]
      simp only [ob, i1f, eq_self, if_true, if_false]
      rfl
