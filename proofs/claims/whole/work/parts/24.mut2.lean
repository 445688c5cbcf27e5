/-! way, unstep, step -/
theorem cL_upd {f : Nat → Int32} {t l : Nat} (hl : l < 2 ^ 31) : cL (upd f (70 + t) (nI l)) t = l := by
  show (upd f (70 + t) (nI l) (70 + t)).toNatClampNeg = l
  rw [upd_s, nI_clamp hl]
theorem Ca.to {h hx : tkH} {f f' : Nat → Int32} (c : Ca h f) (e : hx 201 = h 201) (eN : cN f' = cN f) (ec : ∀ a b, a < cN f → b < cN f → (cst f' a b).1 = (cst f a b).1) : Ca hx f' := by
  refine ⟨fun a b ha hb => by rw [e]; exact c.1 a b ha hb, fun a b ha hb => ?_⟩
  rw [e, eN]
  refine ⟨fun q => ?_, (c.2 a b ha hb).2⟩
  rw [ec a b q.1 q.2]
  exact (c.2 a b ha hb).1 q
theorem Ca.forget {g hx : tkH} {f f' : Nat → Int32} {t : Nat} (c : Ca g f) (e : ∀ a b, a < 10 → b < 10 → hx 201 (10 * a + b) = if a = t ∨ b = t then -1 else g 201 (10 * a + b)) (eN : cN f' = cN f) (ec : ∀ a b, a < cN f → b < cN f → a ≠ t → b ≠ t → (cst f' a b).1 = (cst f a b).1) : Ca hx f' := by
  refine ⟨fun a b ha hb => ?_, fun a b ha hb => ?_⟩
  · rw [e a b ha hb, e b a hb ha]
    by_cases q : a = t ∨ b = t
    · rw [if_pos q, if_pos (by omega)]
    · rw [if_neg q, if_neg (by omega)]
      exact c.1 a b ha hb
  · rw [e a b ha hb, eN]
    by_cases q : a = t ∨ b = t
    · rw [if_pos q]
      exact ⟨fun _ => Or.inl rfl, fun _ => rfl⟩
    · rw [if_neg q]
      refine ⟨fun z => ?_, (c.2 a b ha hb).2⟩
      rw [ec a b z.1 z.2 (by omega) (by omega)]
      exact (c.2 a b ha hb).1 z
theorem op_way {h : tkH} (I : Inv h) (a b c : Int32) : OP (f_X8_way h 0 a b c) (fun g => f_X9_way g 217 a b c) := by
  have v := I.1
  have n2 := v.n.2
  have P0 : ∀ (g : tkH) (x : Nat), x < 6 → f_X9_isPlace g (nI x) = some (1, g) := fun g x hx => by
    unfold f_X9_isPlace
    rw [nl5, m_in (n := 5) (by omega) (by decide)]
    simp only [ob, i1f, eq_self, if_true, if_false]
    rw [bz_1]
    simp only [ob, i1f, eq_self, if_true, if_false]
  have P1 : ∀ (g : tkH) (x : Int32), (¬ ∃ t, t < 6 ∧ x = nI t) → f_X9_isPlace g x = some (0, g) := fun g x hx => by
    unfold f_X9_isPlace
    rw [nl5, m_out hx (by decide)]
    simp only [ob, i1f, eq_self, if_true, if_false]
    rw [bz_0]
    simp only [ob, i1f, eq_self, if_true, if_false]
  by_cases ha : ∃ t, t < 6 ∧ a = nI t
  · obtain ⟨p, hp, rfl⟩ := ha
    by_cases hb : ∃ t, t < 6 ∧ b = nI t
    · obtain ⟨q, hq, rfl⟩ := hb
      by_cases hc : ∃ t, t < 1000 ∧ c = nI t
      · obtain ⟨d, hd, rfl⟩ := hc
        by_cases hpq : p = q
        · refine OP.f0 (c := -100003) I ?_ (fun g e => ?_)
          · unfold f_X8_way
            rw [nl6, x_in hp (by decide)]
            simp only [ob, i1f, eq_self, if_true, if_false]
            rw [x_in hq (by decide)]
            simp only [ob, i1f, eq_self, if_true, if_false]
            rw [nl1000, x_in hd (by decide)]
            simp only [ob, i1f, eq_self, if_true, if_false]
            rw [if_pos (by rw [hpq])]
            rfl
          · show f_X9_way g 217 (nI p) (nI q) (nI d) = _
            unfold f_X9_way
            rw [P0 g p hp]
            simp only [ob, i1f, eq_self, if_true, if_false]
            rw [P0 g q hq]
            simp only [ob, i1f, eq_self, if_true, if_false]
            rw [nl999, m_in (n := 999) (by omega) (by decide)]
            simp only [ob, i1f, eq_self, if_true, if_false]
            rw [if_pos (by rw [hpq])]
            rfl
        · obtain ⟨h1, k1, k2, K⟩ := mutK I
          obtain ⟨hk, m1, m2, m3, m4⟩ := K (tkup (tkup h1 9 (p * 6 + q) (nI d)) 9 (q * 6 + p) (nI d)) (fun z g1 g2 => by rw [up_a (by omega), up_a (by omega)]) (by rw [up_a (by decide), up_a (by decide)])
          have e9 : h1 9 = h 9 := k2 9 (by omega)
          have l9 : ln 9 = 36 := by simp only [LN]
          refine ⟨h 218 (4 + 6 * p + q), tkup (tkup h1 9 (p * 6 + q) (nI d)) 9 (q * 6 + p) (nI d), tkup (tkup hk 218 (4 + 6 * p + q) (nI d)) 218 (4 + 6 * q + p) (nI d), ?_, ?_, m4 _ (fun q e => by rw [up_a e, up_a e]) ?_ ?_ ?_⟩
          · unfold f_X8_way f_X0_wayBetween f_X0_setWay
            rw [f00.1, f00.2.1, nl6, x_in hp (by decide)]
            simp only [ob, i1f, eq_self, if_true, if_false]
            rw [x_in hq (by decide)]
            simp only [ob, i1f, eq_self, if_true, if_false]
            rw [nl1000, x_in hd (by decide)]
            simp only [ob, i1f, eq_self, if_true, if_false]
            rw [if_neg (nIne (by omega) (by omega) hpq), k1, ob, show fld 1 8 = 9 by simp only [FL], pk_mul, nI_add, rdI_n (by omega) (by omega), ob]
            simp only [ob, i1f, eq_self, if_true, if_false]
            rw [wrI_n (by omega) (by omega), ob, pk_mul, nI_add, wrI_n (by omega) (by omega), ob]
            simp only [ob, i1f, eq_self, if_true, if_false]
            rw [e9, show p * 6 + q = 6 * p + q by omega, I.2.1.2.2.2 (6 * p + q) (by omega), show 4 + (6 * p + q) = 4 + 6 * p + q by omega]
          · show f_X9_way _ 217 (nI p) (nI q) (nI d) = _
            unfold f_X9_way
            rw [P0 _ p hp]
            simp only [ob, i1f, eq_self, if_true, if_false]
            rw [P0 _ q hq]
            simp only [ob, i1f, eq_self, if_true, if_false]
            rw [nl999, m_in (n := 999) (by omega) (by decide)]
            simp only [ob, i1f, eq_self, if_true, if_false]
            rw [if_neg (nIne (by omega) (by omega) hpq), m1, ob, show fld 217 0 = 218 by simp only [FL], nl4, nl6, pk_mul, nI_add, nI_add, r218 (by omega), ob, w218 (by omega), ob, pk_mul, nI_add, nI_add, w218 (by omega), ob, m2]
          · rw [up218, up218, m2]
            have b1 : bd (4 + 6 * p + q) = 999 := by unfold bd; rw [if_neg (by omega), if_pos (by omega)]
            have b2 : bd (4 + 6 * q + p) = 999 := by unfold bd; rw [if_neg (by omega), if_pos (by omega)]
            exact (v.up1 (Or.inl (by omega)) (by rw [b1]; exact tN_of (by omega) (by decide))).up1 (Or.inl (by omega)) (by rw [b2]; exact tN_of (by omega) (by decide))
          · rw [up218, up218, m2]
            obtain ⟨x0, x1, x2, x3⟩ := I.2.1
            have U : ∀ i, i < 4 ∨ 40 ≤ i → upd (upd (h 218) (4 + 6 * p + q) (nI d)) (4 + 6 * q + p) (nI d) i = h 218 i := fun i hi => by rw [upd_n (by omega), upd_n (by omega)]
            have eN : cN (upd (upd (h 218) (4 + 6 * p + q) (nI d)) (4 + 6 * q + p) (nI d)) = cN (h 218) := by unfold cN; rw [U 0 (by omega)]
            have E : ∀ z, z ≠ 9 → z ≤ 9 → tkup (tkup h1 9 (p * 6 + q) (nI d)) 9 (q * 6 + p) (nI d) z = h z := fun z g1 g2 => by rw [up_a g1, up_a g1, k2 z (by omega)]
            refine ⟨by rw [E 1 (by omega) (by omega), U 0 (by omega)]; exact x0, fun t ht => ?_, fun i hi => by rw [E (1 + 7) (by omega) (by omega), U _ (by omega)]; exact x2 i hi, fun i hi => ?_⟩
            · rw [eN] at ht
              obtain ⟨y1, y2, y3, y4, y5, y6⟩ := x1 t ht
              have eL : cL (upd (upd (h 218) (4 + 6 * p + q) (nI d)) (4 + 6 * q + p) (nI d)) t = cL (h 218) t := by unfold cL; rw [U _ (by omega)]
              rw [E (1 + 1) (by omega) (by omega), E (1 + 2) (by omega) (by omega), E (1 + 3) (by omega) (by omega), E (1 + 4) (by omega) (by omega), E (1 + 5) (by omega) (by omega), E (1 + 6) (by omega) (by omega), U _ (by omega), U _ (by omega), U _ (by omega), U _ (by omega), U _ (by omega), eL]
              exact ⟨y1, y2, y3, y4, y5, fun i hi => by rw [U _ (by omega), U _ (by omega), U _ (by omega)]; exact y6 i hi⟩
            · show tkup (tkup h1 9 (p * 6 + q) (nI d)) 9 (q * 6 + p) (nI d) 9 i = _
              by_cases e1 : i = q * 6 + p
              · subst e1
                rw [up_s, show 4 + (q * 6 + p) = 4 + 6 * q + p by omega, upd_s]
              · rw [up_i e1, upd_n (by omega)]
                by_cases e2 : i = p * 6 + q
                · subst e2
                  rw [up_s, show 4 + (p * 6 + q) = 4 + 6 * p + q by omega, upd_s]
                · rw [up_i e2, upd_n (by omega), e9]
                  exact x3 i hi
          · rw [up218, up218, m2]
            have U : ∀ i, i < 4 ∨ 40 ≤ i → upd (upd (h 218) (4 + 6 * p + q) (nI d)) (4 + 6 * q + p) (nI d) i = h 218 i := fun i hi => by rw [upd_n (by omega), upd_n (by omega)]
            refine I.2.2.2.2.1.to (by rw [up_a (by decide), up_a (by decide), k2 201 (by omega)]) (by unfold cN; rw [U 0 (by omega)]) (fun a b _ _ => ?_)
            rw [cst_congr (fun j hj => U _ (by omega)) ⟨U _ (by omega), U _ (by omega), fun i w _ _ => U _ (by omega)⟩ ⟨U _ (by omega), U _ (by omega), fun i w _ _ => U _ (by omega)⟩]
      · refine OP.f0 (c := -100001) I ?_ (fun g e => ?_)
        · unfold f_X8_way f_X8_way_J28
          rw [nl6, x_in hp (by decide)]
          simp only [ob, i1f, eq_self, if_true, if_false]
          rw [x_in hq (by decide)]
          simp only [ob, i1f, eq_self, if_true, if_false]
          rw [nl1000, x_out hc (by decide)]
          simp only [ob, i1f, eq_self, if_true, if_false]
          rfl
        · show f_X9_way g 217 (nI p) (nI q) c = _
          unfold f_X9_way f_X9_way_J25
          rw [P0 g p hp]
          simp only [ob, i1f, eq_self, if_true, if_false]
          rw [P0 g q hq]
          simp only [ob, i1f, eq_self, if_true, if_false]
          rw [nl999, m_out hc (by decide)]
          simp only [ob, i1f, eq_self, if_true, if_false]
          rfl
    · refine OP.f0 (c := -100001) I ?_ (fun g e => ?_)
      · unfold f_X8_way f_X8_way_J28
        rw [nl6, x_in hp (by decide)]
        simp only [ob, i1f, eq_self, if_true, if_false]
        rw [x_out hb (by decide)]
        simp only [ob, i1f, eq_self, if_true, if_false]
        rfl
      · show f_X9_way g 217 (nI p) b c = _
        unfold f_X9_way f_X9_way_J25
        rw [P0 g p hp]
        simp only [ob, i1f, eq_self, if_true, if_false]
        rw [P1 g b hb]
        simp only [ob, i1f, eq_self, if_true, if_false]
        rfl
  · refine OP.f0 (c := -100001) I ?_ (fun g e => ?_)
    · unfold f_X8_way f_X8_way_J28
      rw [nl6, x_out ha (by decide)]
      simp only [ob, i1f, eq_self, if_true, if_false]
      rfl
    · show f_X9_way g 217 a b c = _
      unfold f_X9_way f_X9_way_J25
      rw [P1 g a ha]
      simp only [ob, i1f, eq_self, if_true, if_false]
      rfl
/-- a tale has as many STEPS as l -/
theorem Vd.len {f : Nat → Int32} (v : Vd f) {t l : Nat} (ht : t < cN f) (hl : l ≤ 10) (hs : ∀ i, i < l → tN (f (90 + 3 * (10 * t + i))) 15 ∧ tN (f (90 + 3 * (10 * t + i) + 1)) 3 ∧ tN (f (90 + 3 * (10 * t + i) + 2)) 3) : Vd (upd f (70 + t) (nI l)) := by
  have n := v.n.2
  have eN : cN (upd f (70 + t) (nI l)) = cN f := by unfold cN; rw [upd_n (by omega)]
  have eP : ∀ u, u < 10 → prt (upd f (70 + t) (nI l)) u = prt f u := fun u hu => by unfold prt; rw [upd_n (by omega)]
  have T : ∀ i y, i ≠ 70 + t → tN (f i) y → tN (upd f (70 + t) (nI l) i) y := fun i y hi h => by rw [upd_n hi]; exact h
  refine ⟨T _ _ (by omega) v.1, fun j hj => T _ _ (by omega) (v.2.1 j hj), fun j hj => T _ _ (by omega) (v.2.2.1 j hj), fun u hu => ?_, fun u hu => ?_⟩
  · rw [eN] at hu
    obtain ⟨v1, v2, v3, v4, v5, v6⟩ := v.2.2.2.1 u hu
    have l' := (v.l hu).2
    refine ⟨T _ _ (by omega) v1, T _ _ (by omega) v2, T _ _ (by omega) v3, ?_, ?_, fun i hi => ?_⟩
    · by_cases e : u = t
      · subst e
        rw [upd_s]
        exact tN_of hl (by decide)
      · exact T _ _ (by omega) v4
    · rw [upd_n (by omega), eN]
      exact v5
    · by_cases e : u = t
      · subst e
        have : cL (upd f (70 + u) (nI l)) u = l := by unfold cL; rw [upd_s, nI_clamp (by omega)]
        rw [this] at hi
        obtain ⟨w1, w2, w3⟩ := hs i hi
        exact ⟨T _ _ (by omega) w1, T _ _ (by omega) w2, T _ _ (by omega) w3⟩
      · have : cL (upd f (70 + t) (nI l)) u = cL f u := by unfold cL; rw [upd_n (by omega)]
        rw [this] at hi
        obtain ⟨w1, w2, w3⟩ := v6 i hi
        exact ⟨T _ _ (by omega) w1, T _ _ (by omega) w2, T _ _ (by omega) w3⟩
  · rw [eN] at hu
    obtain ⟨m, hm⟩ := v.2.2.2.2 u hu
    exact ⟨m, (it_ext v eP m u hu).trans hm⟩
theorem op_unstep {h : tkH} (I : Inv h) (a : Int32) : OP (f_X8_unstep h 0 a) (fun g => f_X9_unstep g 217 a) := by
  have v := I.1
  have n2 := v.n.2
  have l6 : ln 6 = 10 := by simp only [LN]
  by_cases ha : ∃ t, t < cN (h 218) ∧ a = nI t
  · obtain ⟨t, ht, rfl⟩ := ha
    have l := v.l ht
    have e6 : h 6 t = nI (cL (h 218) t) := by rw [← l.1]; exact (I.2.1.2.1 t ht).2.2.2.2.1
    by_cases hz : cL (h 218) t = 0
    · refine OP.f0 (c := -100006) I ?_ (fun g e => ?_)
      · unfold f_X8_unstep
        rw [f00.1, x_hasTale_t I.x0 n2 ht]
        simp only [ob, i1f, eq_self, if_true, if_false]
        rw [show fld 1 5 = 6 by simp only [FL], rdI_n (by omega) (by omega), ob, e6, hz, if_neg (by decide)]
        rfl
      · show f_X9_unstep g 217 (nI t) = _
        unfold f_X9_unstep
        rw [m_isTale_t (n := cN (h 218)) (by rw [e 218 (by decide)]; exact v.n.1) n2 ht]
        simp only [ob, i1f, eq_self, if_true, if_false]
        rw [show fld 217 0 = 218 by simp only [FL], nl70, nI_add, r218 (by omega), ob, e 218 (by decide), l.1, hz, if_pos (show nI 0 = 0 from rfl)]
        rfl
    · obtain ⟨h1, k1, k2, K⟩ := mutK I
      obtain ⟨h2, c1, c2, c3⟩ := x_forget (g := tkup h1 6 t (nI (cL (h 218) t - 1))) (t := t) (by omega)
      obtain ⟨hk, m1, m2, m3, m4⟩ := K h2 (fun z g1 g2 => by rw [c1 z g2, up_a (by omega)]) (by rw [c1 0 (by decide), up_a (by decide)])
      have e61 : h1 6 = h 6 := k2 6 (by omega)
      have em : nI (cL (h 218) t) - 1 = nI (cL (h 218) t - 1) := nI_m1 (by omega)
      refine ⟨nI (cL (h 218) t - 1), h2, tkup hk 218 (70 + t) (nI (cL (h 218) t - 1)), ?_, ?_, m4 _ (fun q e => by rw [up_a e]) ?_ ?_ ?_⟩
      · unfold f_X8_unstep
        rw [f00.1, f00.2.1, f00.2.2.1, x_hasTale_t I.x0 n2 ht]
        simp only [ob, i1f, eq_self, if_true, if_false]
        rw [show fld 1 5 = 6 by simp only [FL], rdI_n (by omega) (by omega), ob, e6, if_pos (by rw [nl0, nI_ltI (by decide) (by omega)]; omega), k1, ob, rdI_n (by omega) (by omega), ob, e61, e6, em, wrI_n (by omega) (by omega), ob, c3, ob, rdI_n (by omega) (by omega), ob, c1 6 (by decide), up_s]
      · show f_X9_unstep h2 217 (nI t) = _
        have e218 : h2 218 = h 218 := by rw [c1 218 (by decide), up_a (by decide), k2 218 (by omega)]
        unfold f_X9_unstep
        rw [m_isTale_t (n := cN (h 218)) (by rw [e218]; exact v.n.1) n2 ht]
        simp only [ob, i1f, eq_self, if_true, if_false]
        rw [show fld 217 0 = 218 by simp only [FL], nl70, nI_add, r218 (by omega), ob, e218, l.1, if_neg (show ¬ nI (cL (h 218) t) = 0 from nIne (b := 0) (by omega) (by decide) hz), m1, ob, r218 (by omega), ob, m2, l.1, em, w218 (by omega), ob, r218 (by omega), ob, up_s]
      · rw [up218, m2]
        exact v.len ht (by omega) (fun i hi => (v.2.2.2.1 t ht).2.2.2.2.2 i (by show i < cL (h 218) t; omega))
      · rw [up218, m2]
        obtain ⟨x0, x1, x2, x3⟩ := I.2.1
        have eN : cN (upd (h 218) (70 + t) (nI (cL (h 218) t - 1))) = cN (h 218) := by unfold cN; rw [upd_n (by omega)]
        have E : ∀ z, z ≠ 6 → z ≤ 9 → h2 z = h z := fun z g1 g2 => by rw [c1 z (by omega), up_a g1, k2 z (by omega)]
        refine ⟨by rw [E 1 (by omega) (by omega), upd_n (by omega)]; exact x0, fun u hu => ?_, fun i hi => by rw [E (1 + 7) (by omega) (by omega), upd_n (by omega)]; exact x2 i hi, fun i hi => by rw [E (1 + 8) (by omega) (by omega), upd_n (by omega)]; exact x3 i hi⟩
        rw [eN] at hu
        obtain ⟨y1, y2, y3, y4, y5, y6⟩ := x1 u hu
        have lu := (v.l hu).2
        rw [E (1 + 1) (by omega) (by omega), E (1 + 2) (by omega) (by omega), E (1 + 3) (by omega) (by omega), E (1 + 4) (by omega) (by omega), E (1 + 6) (by omega) (by omega)]
        refine ⟨by rw [upd_n (by omega)]; exact y1, by rw [upd_n (by omega)]; exact y2, by rw [upd_n (by omega)]; exact y3, by rw [upd_n (by omega)]; exact y4, ?_, fun i hi => ?_⟩
        · show h2 6 u = _
          rw [c1 6 (by decide)]
          by_cases e : u = t
          · subst e
            rw [up_s, upd_s]
          · rw [up_i e, upd_n (by omega), e61]
            exact y5
        · rw [upd_n (by omega), upd_n (by omega), upd_n (by omega)]
          refine y6 i ?_
          by_cases e : u = t
          · subst e
            have := cL_upd (f := h 218) (t := u) (l := cL (h 218) u - 1) (by omega)
            omega
          · have : cL (upd (h 218) (70 + t) (nI (cL (h 218) t - 1))) u = cL (h 218) u := by unfold cL; rw [upd_n (by omega)]
            omega
      · rw [up218, m2]
        refine Ca.forget (t := t) (I.2.2.2.2.1.keep (hf := tkup h1 6 t (nI (cL (h 218) t - 1))) (by rw [up_a (by decide), k2 201 (by omega)])) c2 (by unfold cN; rw [upd_n (by omega)]) (fun a b ha hb hat hbt => ?_)
        have la := (v.l ha).2
        have lb := (v.l hb).2
        rw [cst_congr (fun j hj => upd_n (by omega)) ⟨upd_n (by omega), upd_n (by omega), fun i w _ _ => upd_n (by omega)⟩ ⟨upd_n (by omega), upd_n (by omega), fun i w _ _ => upd_n (by omega)⟩]
  · refine OP.f0 (c := -100001) I ?_ (fun g e => ?_)
    · unfold f_X8_unstep
      rw [f00.1, x_hasTale_f I.x0 n2 ha]
      simp only [ob, i1f, eq_self, if_true, if_false]
      rfl
    · show f_X9_unstep g 217 a = _
      unfold f_X9_unstep
      rw [m_isTale_f (n := cN (h 218)) (by rw [e 218 (by decide)]; exact v.n.1) n2 ha]
      simp only [ob, i1f, eq_self, if_true, if_false]
      rfl
