/-! joined: the first of the cheapest cuts -/
theorem nI_sub {a b : Nat} (h : b ≤ a) : nI a - nI b = nI (a - b) := by
  have e : nI (a - b) + nI b = nI a := by rw [nI_add, Nat.sub_add_cancel h]
  rw [← e]
  exact Int32.add_sub_cancel _ _
def jn (w : Nat → Nat) : Nat → Nat × Nat
  | 0 => (0, w 0)
  | s + 1 => if w (s + 1) < (jn w s).2 then (s + 1, w (s + 1)) else jn w s
theorem jn_ok {w : Nat → Nat} : ∀ s, (jn w s).1 ≤ s ∧ (jn w s).2 = w (jn w s).1
  | 0 => ⟨Nat.le_refl _, rfl⟩
  | s + 1 => by
    have h := jn_ok (w := w) s
    by_cases c : w (s + 1) < (jn w s).2
    · rw [show jn w (s + 1) = (s + 1, w (s + 1)) from if_pos c]
      exact ⟨Nat.le_refl _, rfl⟩
    · rw [show jn w (s + 1) = jn w s from if_neg c]
      exact ⟨by omega, h.2⟩
theorem jn_t {α : Type} {w : Nat → Nat} {s : Nat} (hs : s < 100) (hw : ∀ x, x ≤ s + 1 → w x ≤ 100000) (K : Int32 → Int32 → α) :
    (if nI (jn w s).2 ≤ nI (w (s + 1)) then K (nI (jn w s).1) (nI (jn w s).2) else K (nI (s + 1)) (nI (w (s + 1)))) = K (nI (jn w (s + 1)).1) (nI (jn w (s + 1)).2) := by
  have ok := jn_ok (w := w) s
  have w1 := hw (s + 1) (Nat.le_refl _)
  have w2 := hw (jn w s).1 (by omega)
  by_cases c : w (s + 1) < (jn w s).2
  · rw [show jn w (s + 1) = (s + 1, w (s + 1)) from if_pos c, if_neg (by rw [nI_leI (by omega) (by omega)]; omega)]
  · rw [show jn w (s + 1) = jn w s from if_neg c, if_pos (by rw [nI_leI (by omega) (by omega)]; omega)]
/-- COST of a tale cut behind s STEPS, to two others -/
def wj (f : Nat → Int32) (t a b s : Nat) : Nat := if s ≤ cL f t then (pst f t 0 s a).1 + (pst f t s (cL f t) b).1 else 0
theorem wj_le {f : Nat → Int32} (v : Vd f) {t a b : Nat} (ht : t < cN f) (ha : a < cN f) (hb : b < cN f) (s : Nat) : wj f t a b s ≤ 360 := by
  unfold wj
  split
  · next h =>
    have h1 := (pst_le (i := 0) (j := s) v ht ha h).1
    have h2 := (pst_le (i := s) (j := cL f t) v ht hb (Nat.le_refl _)).1
    omega
  · omega
theorem x_two {h : tkH} {f : Nat → Int32} (r : XR h 1 f) (v : Vd f) {t a b s : Nat} (ht : t < cN f) (ha : a < cN f) (hb : b < cN f) (hs : s ≤ cL f t) : ∃ g1 hf, XF h hf ∧ f_X2_ofPart h 192 1 (nI t) 0 (nI s) (nI a) = some (nI (pst f t 0 s a).1, g1) ∧ f_X2_ofPart g1 192 1 (nI t) (nI s) (nI (cL f t) - nI s) (nI b) = some (nI (pst f t s (cL f t) b).1, hf) := by
  obtain ⟨g1, a1, a2⟩ := x_ofPart (i := 0) (n := s) r v ht ha (by omega)
  obtain ⟨g2, b1, b2⟩ := x_ofPart (i := s) (n := cL f t - s) (r.xf a1) v ht hb (by omega)
  rw [Nat.zero_add] at a2
  rw [show s + (cL f t - s) = cL f t by omega] at b2
  exact ⟨g1, g2, a1.tr b1, a2, by rw [nI_sub hs]; exact b2⟩
theorem x_joinL {h : tkH} {f : Nat → Int32} (r : XR h 1 f) (v : Vd f) {t a b : Nat} (ht : t < cN f) (ha : a < cN f) (hb : b < cN f) {kx : tkH → Int32 → Int32 → Option (Int32 × tkH)} : ∀ (m n s : Nat) (g : tkH), m + s = cL f t → m < n → XF h g → ∃ hf, XF h hf ∧ f_X8_joined_L60 (nI (cL f t)) 0 (nI t) (nI a) (nI b) kx n g (nI (jn (wj f t a b) s).1) (nI (jn (wj f t a b) s).2) (nI (s + 1)) = kx hf (nI (jn (wj f t a b) (cL f t)).1) (nI (jn (wj f t a b) (cL f t)).2) := by
  have l := (v.l ht).2
  intro m
  induction m with
  | zero =>
    intro n s g hs hn k
    obtain ⟨n', rfl⟩ : ∃ n', n = n' + 1 := ⟨n - 1, by omega⟩
    refine ⟨g, k, ?_⟩
    rw [f_X8_joined_L60_s, if_pos (by rw [nI_ltI (by omega) (by omega)]; omega), show s = cL f t by omega]
  | succ m ih =>
    intro n s g hs hn k
    obtain ⟨n', rfl⟩ : ∃ n', n = n' + 1 := ⟨n - 1, by omega⟩
    obtain ⟨g1, g2, a1, a2, a3⟩ := x_two (r.xf k) v (s := s + 1) ht ha hb (by omega)
    obtain ⟨hf, d1, d2⟩ := ih n' (s + 1) g2 (by omega) (by omega) (k.tr a1)
    refine ⟨hf, d1, ?_⟩
    rw [f_X8_joined_L60_s, if_neg (by rw [nI_ltI (by omega) (by omega)]; omega), f00.1, f00.2.2.1, a2, ob, a3, ob]
    unfold f_X8_joined_J118
    rw [if_neg (nI_ne0 (by omega) (by omega))]
    have ew : wj f t a b (s + 1) = (pst f t 0 (s + 1) a).1 + (pst f t (s + 1) (cL f t) b).1 := by unfold wj; rw [if_pos (by omega)]
    have key := jn_t (α := Option (Int32 × tkH)) (w := wj f t a b) (s := s) (by omega) (fun x _ => Nat.le_trans (wj_le v ht ha hb x) (by decide)) (fun x y => f_X8_joined_L60 (nI (cL f t)) 0 (nI t) (nI a) (nI b) kx n' g2 x y (nI (s + 1 + 1)))
    rw [ew, ← nI_add] at key
    rw [nI_1]
    exact key.trans d2
theorem m_two {h : tkH} {f : Nat → Int32} (v : Vd f) (e : h 218 = f) {t a b s : Nat} (ht : t < cN f) (ha : a < cN f) (hb : b < cN f) (hs : s ≤ cL f t) : ∃ g1 hf, MF h hf ∧ g1 218 = f ∧ f_X9_partCost h 217 (nI t) 0 (nI s) (nI a) = some (nI (pst f t 0 s a).1, g1) ∧ f_X9_partCost g1 217 (nI t) (nI s) (nI (cL f t)) (nI b) = some (nI (pst f t s (cL f t) b).1, hf) := by
  subst e
  obtain ⟨g1, a1, a2⟩ := m_partCost (i := 0) (j := s) (b := a) v ht ha (by omega) hs
  obtain ⟨g2, b1, b2⟩ := m_partCost (h := g1) (t := t) (i := s) (j := cL (h 218) t) (b := b) (by rw [a1.f]; exact v) (by rw [a1.f]; exact ht) (by rw [a1.f]; exact hb) hs (by rw [a1.f]; exact Nat.le_refl _)
  rw [a1.f] at b2
  exact ⟨g1, g2, a1.tr b1, a1.f, a2, b2⟩
theorem m_joinL {f : Nat → Int32} (v : Vd f) {t a b : Nat} (ht : t < cN f) (ha : a < cN f) (hb : b < cN f) {kx : tkH → Int32 → Int32 → Option (Int32 × tkH)} : ∀ (m n s : Nat) (g : tkH), m + s = cL f t → m < n → g 218 = f → ∃ hf, MF g hf ∧ f_X9_joined_L41 217 (nI t) (nI a) (nI b) kx n g (nI (jn (wj f t a b) s).1) (nI (jn (wj f t a b) s).2) (nI (s + 1)) = kx hf (nI (jn (wj f t a b) (cL f t)).1) (nI (jn (wj f t a b) (cL f t)).2) := by
  have l := v.l ht
  have n2 := v.n.2
  intro m
  induction m with
  | zero =>
    intro n s g hs hn e
    obtain ⟨n', rfl⟩ : ∃ n', n = n' + 1 := ⟨n - 1, by omega⟩
    refine ⟨g, MF.rf, ?_⟩
    rw [f_X9_joined_L41_s, show fld 217 0 = 218 by simp only [FL], nl70, nI_add, r218 (by omega), ob, e, l.1, if_pos (by rw [nI_ltI (by omega) (by omega)]; omega), show s = cL f t by omega]
  | succ m ih =>
    intro n s g hs hn e
    obtain ⟨n', rfl⟩ : ∃ n', n = n' + 1 := ⟨n - 1, by omega⟩
    obtain ⟨g1, g2, a1, a0, a2, a3⟩ := m_two v e (s := s + 1) ht ha hb (by omega)
    obtain ⟨hf, d1, d2⟩ := ih n' (s + 1) g2 (by omega) (by omega) (a1.f.trans e)
    refine ⟨hf, a1.tr d1, ?_⟩
    rw [f_X9_joined_L41_s, show fld 217 0 = 218 by simp only [FL], nl70, nI_add, r218 (by omega), ob, e, l.1, if_neg (by rw [nI_ltI (by omega) (by omega)]; omega), a2, ob]
    simp only []
    rw [r218 (by omega), ob, a0, l.1, a3, ob]
    have ew : wj f t a b (s + 1) = (pst f t 0 (s + 1) a).1 + (pst f t (s + 1) (cL f t) b).1 := by unfold wj; rw [if_pos (by omega)]
    have key := jn_t (α := Option (Int32 × tkH)) (w := wj f t a b) (s := s) (by omega) (fun x _ => Nat.le_trans (wj_le v ht ha hb x) (by decide)) (fun x y => f_X9_joined_L41 217 (nI t) (nI a) (nI b) kx n' g2 x y (nI (s + 1 + 1)))
    rw [ew, ← nI_add] at key
    rw [nI_1]
    exact key.trans d2
theorem op_joined {h : tkH} (I : Inv h) (a b c d : Int32) : OP (f_X8_joined h 0 a b c d) (fun g => f_X9_joined g 217 a b c d) := by
  have v := I.1
  have n2 := v.n.2
  by_cases ha : ∃ t, t < cN (h 218) ∧ a = nI t
  · obtain ⟨t, ht, rfl⟩ := ha
    by_cases hb : ∃ t, t < cN (h 218) ∧ b = nI t
    · obtain ⟨p, hp, rfl⟩ := hb
      by_cases hc : ∃ t, t < cN (h 218) ∧ c = nI t
      · obtain ⟨q, hq, rfl⟩ := hc
        have l := v.l ht
        have l6 : ln 6 = 10 := by simp only [LN]
        have ew : wj (h 218) t p q 0 = (pst (h 218) t 0 0 p).1 + (pst (h 218) t 0 (cL (h 218) t) q).1 := by unfold wj; rw [if_pos (by omega)]
        have w0 := wj_le v ht hp hq 0
        obtain ⟨g1, g2, a1, a2, a3⟩ := x_two I.2.1 v (s := 0) ht hp hq (by omega)
        obtain ⟨n', hn'⟩ : ∃ n', FU = n' + 1 := ⟨FU - 1, by have := FU_gt (m := 20) (by decide); omega⟩
        have hn2 : 20 < n' + 1 := by rw [← hn']; exact FU_gt (by decide)
        obtain ⟨h1, d1, d2⟩ := x_joinL I.2.1 v ht hp hq (kx := fun gz132 z132_6 z132_7 => if d = 0 then (some (z132_6, gz132)) else (some (z132_7, gz132))) (cL (h 218) t) n' 0 g2 (by omega) (by omega) a1
        have e218 : h1 218 = h 218 := d1 218 (by omega)
        obtain ⟨k1, k2, b1, b0, b2, b3⟩ := m_two v e218 (s := 0) ht hp hq (by omega)
        obtain ⟨h2, c1, c2⟩ := m_joinL v ht hp hq (kx := fun gz105 z105_5 z105_6 => if d = 0 then (some (z105_5, gz105)) else (some (z105_6, gz105))) (cL (h 218) t) n' 0 k2 (by omega) (by omega) (b1.f.trans e218)
        have a3' : f_X2_ofPart g1 192 1 (nI t) 0 (nI (cL (h 218) t) - 0) (nI q) = _ := a3
        have a2' : f_X2_ofPart h 192 1 (nI t) 0 0 (nI p) = _ := a2
        have b3' : f_X9_partCost k1 217 (nI t) 0 (nI (cL (h 218) t)) (nI q) = _ := b3
        have b2' : f_X9_partCost h1 217 (nI t) 0 0 (nI p) = _ := b2
        refine OP.q (h1 := h1) (h2 := h2) (r := if d = 0 then nI (jn (wj (h 218) t p q) (cL (h 218) t)).1 else nI (jn (wj (h 218) t p q) (cL (h 218) t)).2) I ?_ ?_ d1.p (I.2.2.2.2.1.keep d1.c) (b1.tr c1)
        · unfold f_X8_joined
          rw [f00.1, x_hasTale_t I.x0 n2 ht]
          simp only [ob, i1f, eq_self, if_true, if_false]
          rw [x_hasTale_t I.x0 n2 hp]
          simp only [ob, i1f, eq_self, if_true, if_false]
          rw [x_hasTale_t I.x0 n2 hq]
          simp only [ob, i1f, eq_self, if_true, if_false]
          rw [show fld 1 5 = 6 by simp only [FL], rdI_n (by omega) (by omega), ob, (I.2.1.2.1 t ht).2.2.2.2.1, l.1, hn', f_X8_joined_L60_s, if_neg (show ¬ nI (cL (h 218) t) < 0 from nI_pos (by omega)), f00.1, f00.2.2.1, a2', ob, a3', ob, if_pos rfl]
          unfold f_X8_joined_J118
          have d2' : f_X8_joined_L60 (nI (cL (h 218) t)) 0 (nI t) (nI p) (nI q) (fun gz132 z132_6 z132_7 => if d = 0 then (some (z132_6, gz132)) else (some (z132_7, gz132))) n' g2 0 (nI (wj (h 218) t p q 0)) (0 + 1) = _ := d2
          rw [ew, ← nI_add] at d2'
          refine d2'.trans ?_
          show (if d = 0 then _ else _) = _
          by_cases z : d = 0
          · rw [if_pos z, if_pos z]
          · rw [if_neg z, if_neg z]
        · show f_X9_joined h1 217 (nI t) (nI p) (nI q) d = _
          unfold f_X9_joined
          rw [m_isTale_t (n := cN (h 218)) (by rw [e218]; exact v.n.1) n2 ht]
          simp only [ob, i1f, eq_self, if_true, if_false]
          rw [m_isTale_t (n := cN (h 218)) (by rw [e218]; exact v.n.1) n2 hp]
          simp only [ob, i1f, eq_self, if_true, if_false]
          rw [m_isTale_t (n := cN (h 218)) (by rw [e218]; exact v.n.1) n2 hq]
          simp only [ob, i1f, eq_self, if_true, if_false]
          rw [hn', f_X9_joined_L41_s, show fld 217 0 = 218 by simp only [FL], nl70, nI_add, r218 (by omega), ob, e218, l.1, if_neg (show ¬ nI (cL (h 218) t) < 0 from nI_pos (by omega)), b2', ob]
          simp only []
          rw [r218 (by omega), ob, b0, l.1, b3', ob, nI_add, ← ew, nl1000000, if_neg (by rw [nI_leI (by omega) (by omega)]; omega)]
          have c2' : f_X9_joined_L41 217 (nI t) (nI p) (nI q) (fun gz105 z105_5 z105_6 => if d = 0 then (some (z105_5, gz105)) else (some (z105_6, gz105))) n' k2 0 (nI (wj (h 218) t p q 0)) (0 + 1) = _ := c2
          refine c2'.trans ?_
          show (if d = 0 then _ else _) = _
          by_cases z : d = 0
          · rw [if_pos z, if_pos z]
          · rw [if_neg z, if_neg z]
      · refine OP.f0 (c := -100001) I ?_ (fun g e => ?_)
        · unfold f_X8_joined f_X8_joined_J33
          rw [f00.1, x_hasTale_t I.x0 n2 ht]
          simp only [ob, i1f, eq_self, if_true, if_false]
          rw [x_hasTale_t I.x0 n2 hp]
          simp only [ob, i1f, eq_self, if_true, if_false]
          rw [x_hasTale_f I.x0 n2 hc]
          simp only [ob, i1f, eq_self, if_true, if_false]
          rfl
        · show f_X9_joined g 217 (nI t) (nI p) c d = _
          unfold f_X9_joined f_X9_joined_J24
          rw [m_isTale_t (n := cN (h 218)) (by rw [e 218 (by decide)]; exact v.n.1) n2 ht]
          simp only [ob, i1f, eq_self, if_true, if_false]
          rw [m_isTale_t (n := cN (h 218)) (by rw [e 218 (by decide)]; exact v.n.1) n2 hp]
          simp only [ob, i1f, eq_self, if_true, if_false]
          rw [m_isTale_f (n := cN (h 218)) (by rw [e 218 (by decide)]; exact v.n.1) n2 hc]
          simp only [ob, i1f, eq_self, if_true, if_false]
          rfl
    · refine OP.f0 (c := -100001) I ?_ (fun g e => ?_)
      · unfold f_X8_joined f_X8_joined_J33
        rw [f00.1, x_hasTale_t I.x0 n2 ht]
        simp only [ob, i1f, eq_self, if_true, if_false]
        rw [x_hasTale_f I.x0 n2 hb]
        simp only [ob, i1f, eq_self, if_true, if_false]
        rfl
      · show f_X9_joined g 217 (nI t) b c d = _
        unfold f_X9_joined f_X9_joined_J24
        rw [m_isTale_t (n := cN (h 218)) (by rw [e 218 (by decide)]; exact v.n.1) n2 ht]
        simp only [ob, i1f, eq_self, if_true, if_false]
        rw [m_isTale_f (n := cN (h 218)) (by rw [e 218 (by decide)]; exact v.n.1) n2 hb]
        simp only [ob, i1f, eq_self, if_true, if_false]
        rfl
  · refine OP.f0 (c := -100001) I ?_ (fun g e => ?_)
    · unfold f_X8_joined f_X8_joined_J33
      rw [f00.1, x_hasTale_f I.x0 n2 ha]
      simp only [ob, i1f, eq_self, if_true, if_false]
      rfl
    · show f_X9_joined g 217 a b c d = _
      unfold f_X9_joined f_X9_joined_J24
      rw [m_isTale_f (n := cN (h 218)) (by rw [e 218 (by decide)]; exact v.n.1) n2 ha]
      simp only [ob, i1f, eq_self, if_true, if_false]
      rfl
