/-! recode -/
def rcs (m1 m2 t : Nat) : Nat → Nat → (Nat → Int32) × Nat → (Nat → Int32) × Nat
  | 0, _, s => s
  | k + 1, i, s => rcs m1 m2 t k (i + 1) (if cS s.1 t i 0 = m1 then (upd s.1 (90 + 3 * (10 * t + i)) (nI m2), s.2 + 1) else s)
theorem rcs_s {m1 m2 t k i : Nat} {s : (Nat → Int32) × Nat} : rcs m1 m2 t (k + 1) i s = rcs m1 m2 t k (i + 1) (if cS s.1 t i 0 = m1 then (upd s.1 (90 + 3 * (10 * t + i)) (nI m2), s.2 + 1) else s) := rfl
theorem bd15 (x : Nat) : bd (90 + 3 * x) = 15 := by
  unfold bd
  rw [if_neg (by omega), if_neg (by omega), if_neg (by omega), if_neg (by omega), if_neg (by omega), if_pos (by omega)]
theorem rc_up {f : Nat → Int32} (v : Vd f) {t i m2 : Nat} (hm : m2 < 16) : Vd (upd f (90 + 3 * (10 * t + i)) (nI m2)) ∧ ∀ j, j < 90 → upd f (90 + 3 * (10 * t + i)) (nI m2) j = f j :=
  ⟨v.up1 (Or.inr (by omega)) (by rw [bd15]; exact tN_of (by omega) (by decide)), fun j hj => upd_n (by omega)⟩
theorem e90 {f g : Nat → Int32} (e : ∀ j, j < 90 → g j = f j) : cN g = cN f ∧ ∀ t, t < 10 → cL g t = cL f t :=
  ⟨by unfold cN; rw [e 0 (by omega)], fun t ht => by unfold cL; rw [e (70 + t) (by omega)]⟩
theorem rcs_ok {m1 m2 t : Nat} (hm : m2 < 16) : ∀ (k i : Nat) (s : (Nat → Int32) × Nat), Vd s.1 → Vd (rcs m1 m2 t k i s).1 ∧ ∀ j, j < 90 → (rcs m1 m2 t k i s).1 j = s.1 j
  | 0, i, s, v => ⟨v, fun _ _ => rfl⟩
  | k + 1, i, s, v => by
    rw [rcs_s]
    by_cases c : cS s.1 t i 0 = m1
    · rw [if_pos c]
      have u := rc_up v (t := t) (i := i) hm
      have h := rcs_ok (m1 := m1) (t := t) hm k (i + 1) (upd s.1 (90 + 3 * (10 * t + i)) (nI m2), s.2 + 1) u.1
      exact ⟨h.1, fun j hj => (h.2 j hj).trans (u.2 j hj)⟩
    · rw [if_neg c]
      exact rcs_ok hm k (i + 1) s v
theorem XR.rc {h : tkH} {f : Nat → Int32} (r : XR h 1 f) (v : Vd f) {t i m2 : Nat} (ht : t < cN f) (hi : i < cL f t) (hm : m2 < 16) : XR (tkup h 7 (10 * t + i) (nI (16 * m2 + 4 * cS f t i 1 + cS f t i 2))) 1 (upd f (90 + 3 * (10 * t + i)) (nI m2)) := by
  obtain ⟨x0, x1, x2, x3⟩ := r
  have n2 := v.n.2
  have U : ∀ j, j < 90 → upd f (90 + 3 * (10 * t + i)) (nI m2) j = f j := fun j hj => upd_n (by omega)
  have E := e90 U
  have q : ∀ q, q ≠ 7 → tkup h 7 (10 * t + i) (nI (16 * m2 + 4 * cS f t i 1 + cS f t i 2)) q = h q := fun q e => up_a e
  refine ⟨by rw [q 1 (by omega), U 0 (by omega)]; exact x0, fun u hu => ?_, fun j hj => by rw [q 8 (by omega), U _ (by omega)]; exact x2 j hj, fun j hj => by rw [q 9 (by omega), U _ (by omega)]; exact x3 j hj⟩
  rw [E.1] at hu
  have lu := (v.l hu).2
  have lt := (v.l ht).2
  obtain ⟨w1, w2, w3, w4, w5, w6⟩ := x1 u hu
  rw [q 2 (by omega), q 3 (by omega), q 4 (by omega), q 5 (by omega), q 6 (by omega), U (40 + u) (by omega), U (50 + u) (by omega), U (60 + u) (by omega), U (70 + u) (by omega), U (80 + u) (by omega)]
  refine ⟨w1, w2, w3, w4, w5, fun j hj => ?_⟩
  rw [E.2 u (by omega)] at hj
  by_cases e : 10 * u + j = 10 * t + i
  · rw [e, upd_s, upd_n (by omega), upd_n (by omega)]
    have s1 := v.s1 ht hi
    have s2 := v.s2 ht hi
    show tkup h 7 _ _ 7 _ = _
    rw [up_s, s1.1, s2.1]
    exact (pk_all (by omega) s1.2 s2.2).1.symm
  · rw [upd_n (by omega), upd_n (by omega), upd_n (by omega)]
    show tkup h 7 _ _ 7 _ = _
    rw [up_i e]
    exact w6 j hj
theorem x_rcL {m1 m2 t : Nat} (h1 : m1 < 16) (h2 : m2 < 16) {kx : tkH → Int32 → Option (Int32 × tkH)} : ∀ (k n i : Nat) (s : (Nat → Int32) × Nat) (g : tkH), k + i = cL s.1 t → t < cN s.1 → k < n → Vd s.1 → XR g 1 s.1 → ∃ hf, BC 7 g hf ∧ XR hf 1 (rcs m1 m2 t k i s).1 ∧ f_X0_changeMotif_L17 1 (nI t) (nI m1) (nI m2) kx n g (nI s.2) (nI i) = kx hf (nI (rcs m1 m2 t k i s).2) := by
  have l6 : ln 6 = 10 := by simp only [LN]
  have l7 : ln 7 = 100 := by simp only [LN]
  intro k
  induction k with
  | zero =>
    intro n i s g hi ht hn v r
    obtain ⟨n', rfl⟩ : ∃ n', n = n' + 1 := ⟨n - 1, by omega⟩
    have n2 := v.n.2
    have l := v.l ht
    refine ⟨g, BC.rf, r, ?_⟩
    rw [f_X0_changeMotif_L17_s, show fld 1 5 = 6 by simp only [FL], rdI_n (by omega) (by omega), ob, (r.2.1 t ht).2.2.2.2.1, l.1, if_pos (by rw [nI_leI (by omega) (by omega)]; omega)]
    rfl
  | succ k ih =>
    intro n i s g hi ht hn v r
    obtain ⟨n', rfl⟩ : ∃ n', n = n' + 1 := ⟨n - 1, by omega⟩
    have n2 := v.n.2
    have l := v.l ht
    have hi' : i < cL s.1 t := by omega
    have s0 := v.s0 ht hi'
    have s1 := v.s1 ht hi'
    have s2 := v.s2 ht hi'
    have P := pk_all s0.2 s1.2 s2.2
    rw [f_X0_changeMotif_L17_s, show fld 1 5 = 6 by simp only [FL], rdI_n (by omega) (by omega), ob, (r.2.1 t ht).2.2.2.2.1, l.1, if_neg (by rw [nI_leI (by omega) (by omega)]; omega), x_stepAt (by omega) (by omega), ob]
    simp only []
    rw [show g 7 (10 * t + i) = nI (sc s.1 t i) from r.st v ht hi', x_motif v ht hi', ob, rcs_s]
    simp only []
    by_cases c : cS s.1 t i 0 = m1
    · rw [if_pos (show nI (cS s.1 t i 0) = nI m1 by rw [c]), if_pos c]
      unfold f_X8_whoOf f_X8_whomOf f_X8_packed sc
      simp only [ob]
      rw [P.2.2.1, P.2.2.2]
      have Q := pk_all (m := m2) (by omega) s1.2 s2.2
      have Q1 : ((nI m2 <<< (4 &&& 31)) ||| (nI (cS s.1 t i 1) <<< (2 &&& 31))) ||| nI (cS s.1 t i 2) = nI (16 * m2 + 4 * cS s.1 t i 1 + cS s.1 t i 2) := Q.1
      rw [Q1, show fld 1 6 = 7 by simp only [FL], nl10, pk_mul, nI_add, show t * 10 + i = 10 * t + i by omega, wrI_n (by omega) (by omega), ob, nI_1, nI_1]
      have u := rc_up v (t := t) (i := i) h2
      have E := e90 u.2
      obtain ⟨hf, d1, d2, d3⟩ := ih n' (i + 1) (upd s.1 (90 + 3 * (10 * t + i)) (nI m2), s.2 + 1) (tkup g 7 (10 * t + i) (nI (16 * m2 + 4 * cS s.1 t i 1 + cS s.1 t i 2))) (by show k + (i + 1) = cL (upd s.1 (90 + 3 * (10 * t + i)) (nI m2)) t; rw [E.2 t (by omega)]; omega) (by show t < cN (upd s.1 (90 + 3 * (10 * t + i)) (nI m2)); rw [E.1]; exact ht) (by omega) u.1 (r.rc v ht hi' h2)
      exact ⟨hf, BC.up.tr d1, d2, d3⟩
    · rw [if_neg (nIne (by omega) (by omega) c), if_neg c, nI_1]
      exact ih n' (i + 1) s g (by omega) ht (by omega) v r
theorem m_rcL {m1 m2 t : Nat} (h1 : m1 < 16) (h2 : m2 < 16) {kx : tkH → Int32 → Option (Int32 × tkH)} : ∀ (k n i : Nat) (s : (Nat → Int32) × Nat) (g : tkH), k + i = cL s.1 t → t < cN s.1 → k < n → Vd s.1 → g 218 = s.1 → ∃ hf, BC 218 g hf ∧ hf 218 = (rcs m1 m2 t k i s).1 ∧ f_X9_recode_L44 217 (nI t) (nI m1) (nI m2) kx n g (nI s.2) (nI i) = kx hf (nI (rcs m1 m2 t k i s).2) := by
  intro k
  induction k with
  | zero =>
    intro n i s g hi ht hn v e
    obtain ⟨n', rfl⟩ : ∃ n', n = n' + 1 := ⟨n - 1, by omega⟩
    have n2 := v.n.2
    have l := v.l ht
    refine ⟨g, BC.rf, e, ?_⟩
    rw [f_X9_recode_L44_s, show fld 217 0 = 218 by simp only [FL], nl70, nI_add, r218 (by omega), ob, e, l.1, if_pos (by rw [nI_leI (by omega) (by omega)]; omega)]
    rfl
  | succ k ih =>
    intro n i s g hi ht hn v e
    obtain ⟨n', rfl⟩ : ∃ n', n = n' + 1 := ⟨n - 1, by omega⟩
    have n2 := v.n.2
    have l := v.l ht
    have hi' : i < cL s.1 t := by omega
    have s0 := v.s0 ht hi'
    have t0 : f_X9_stepOf g 217 (nI t) (nI i) 0 = some (nI (cS s.1 t i 0), g) := by
      have q := m_stepOf (h := g) (t := t) (i := i) (w := 0) (by omega) (by omega) (by decide)
      rw [e] at q
      rw [← s0.1]
      exact q
    have t1 : f_X9_stepOf g 217 (nI t) (nI i) 1 = some (g 218 (90 + 3 * (10 * t + i) + 1), g) := m_stepOf (h := g) (t := t) (i := i) (w := 1) (by omega) (by omega) (by decide)
    have t2 : f_X9_stepOf g 217 (nI t) (nI i) 2 = some (g 218 (90 + 3 * (10 * t + i) + 2), g) := m_stepOf (h := g) (t := t) (i := i) (w := 2) (by omega) (by omega) (by decide)
    rw [f_X9_recode_L44_s, show fld 217 0 = 218 by simp only [FL], nl70, nI_add, r218 (by omega), ob, e, l.1, if_neg (by rw [nI_leI (by omega) (by omega)]; omega), t0, ob, rcs_s]
    simp only []
    by_cases c : cS s.1 t i 0 = m1
    · rw [if_pos (show nI (cS s.1 t i 0) = nI m1 by rw [c]), if_pos c, t1, ob]
      simp only []
      rw [t2, ob]
      simp only []
      rw [m_setStep (by omega) (by omega), ob, nI_1, nI_1]
      have u := rc_up v (t := t) (i := i) h2
      have E := e90 u.2
      generalize hg : tkup (tkup (tkup g 218 (90 + 3 * (10 * t + i)) (nI m2)) 218 (90 + 3 * (10 * t + i) + 1) (g 218 (90 + 3 * (10 * t + i) + 1))) 218 (90 + 3 * (10 * t + i) + 2) (g 218 (90 + 3 * (10 * t + i) + 2)) = g1
      have b1 : BC 218 g g1 := by
        rw [← hg]
        exact (BC.up.tr BC.up).tr BC.up
      have e1 : g1 218 = upd s.1 (90 + 3 * (10 * t + i)) (nI m2) := by
        rw [← hg, ← e]
        funext j
        unfold upd
        by_cases j0 : j = 90 + 3 * (10 * t + i)
        · rw [if_pos j0, j0, up_i (by omega), up_i (by omega), up_s]
        · rw [if_neg j0]
          by_cases j2 : j = 90 + 3 * (10 * t + i) + 2
          · rw [j2, up_s]
          · rw [up_i j2]
            by_cases j1 : j = 90 + 3 * (10 * t + i) + 1
            · rw [j1, up_s]
            · rw [up_i j1, up_i j0]
      obtain ⟨hf, d1, d2, d3⟩ := ih n' (i + 1) (upd s.1 (90 + 3 * (10 * t + i)) (nI m2), s.2 + 1) g1 (by show k + (i + 1) = cL (upd s.1 (90 + 3 * (10 * t + i)) (nI m2)) t; rw [E.2 t (by omega)]; omega) (by show t < cN (upd s.1 (90 + 3 * (10 * t + i)) (nI m2)); rw [E.1]; exact ht) (by omega) u.1 e1
      exact ⟨hf, b1.tr d1, d2, d3⟩
    · rw [if_neg (nIne (by omega) (by omega) c), if_neg c, nI_1]
      exact ih n' (i + 1) s g (by omega) ht (by omega) v e
def rct (m1 m2 : Nat) : Nat → Nat → (Nat → Int32) × Nat → (Nat → Int32) × Nat
  | 0, _, s => s
  | k + 1, t, s => rct m1 m2 k (t + 1) (rcs m1 m2 t (cL s.1 t) 0 s)
theorem rct_s {m1 m2 t k : Nat} {s : (Nat → Int32) × Nat} : rct m1 m2 (k + 1) t s = rct m1 m2 k (t + 1) (rcs m1 m2 t (cL s.1 t) 0 s) := rfl
theorem rct_ok {m1 m2 : Nat} (hm : m2 < 16) : ∀ (k t : Nat) (s : (Nat → Int32) × Nat), Vd s.1 → Vd (rct m1 m2 k t s).1
  | 0, t, s, v => v
  | k + 1, t, s, v => by
    rw [rct_s]
    exact rct_ok hm k (t + 1) _ (rcs_ok hm _ _ s v).1
theorem x_rcT {m1 m2 : Nat} (h1 : m1 < 16) (h2 : m2 < 16) : ∀ (k n t : Nat) (s : (Nat → Int32) × Nat) (g : tkH), k + t = cN s.1 → k < n → Vd s.1 → XR g 1 s.1 → ∃ hf, BC 7 g hf ∧ XR hf 1 (rct m1 m2 k t s).1 ∧ f_X0_changeMotif_L5 1 (nI m1) (nI m2) n g (nI s.2) (nI t) = some (nI (rct m1 m2 k t s).2, hf) := by
  intro k
  induction k with
  | zero =>
    intro n t s g ht hn v r
    obtain ⟨n', rfl⟩ : ∃ n', n = n' + 1 := ⟨n - 1, by omega⟩
    have n2 := v.n.2
    refine ⟨g, BC.rf, r, ?_⟩
    rw [f_X0_changeMotif_L5_s, r.1, v.n.1, if_pos (by rw [nI_leI (by omega) (by omega)]; omega)]
    rfl
  | succ k ih =>
    intro n t s g ht hn v r
    obtain ⟨n', rfl⟩ : ∃ n', n = n' + 1 := ⟨n - 1, by omega⟩
    have n2 := v.n.2
    have l := (v.l (t := t) (by omega)).2
    have ok := rcs_ok (m1 := m1) (t := t) h2 (cL s.1 t) 0 s v
    have E := e90 ok.2
    obtain ⟨g1, d1, d2, d3⟩ := x_rcL h1 h2 (t := t) (kx := fun gz84 z84_3 => f_X0_changeMotif_L5 1 (nI m1) (nI m2) n' gz84 z84_3 (nI (t + 1))) (cL s.1 t) FU 0 s g (by omega) (by omega) (FU_gt (by omega)) v r
    obtain ⟨hf, e1, e2, e3⟩ := ih n' (t + 1) (rcs m1 m2 t (cL s.1 t) 0 s) g1 (by rw [E.1]; omega) (by omega) ok.1 d2
    refine ⟨hf, d1.tr e1, e2, ?_⟩
    rw [f_X0_changeMotif_L5_s, r.1, v.n.1, if_neg (by rw [nI_leI (by omega) (by omega)]; omega), nI_1]
    exact Eq.trans d3 e3
theorem m_rcT {m1 m2 : Nat} (h1 : m1 < 16) (h2 : m2 < 16) : ∀ (k n t : Nat) (s : (Nat → Int32) × Nat) (g : tkH), k + t = cN s.1 → k < n → Vd s.1 → g 218 = s.1 → ∃ hf, BC 218 g hf ∧ hf 218 = (rct m1 m2 k t s).1 ∧ f_X9_recode_L30 217 (nI m1) (nI m2) n g (nI s.2) (nI t) = some (nI (rct m1 m2 k t s).2, hf) := by
  have rz : ∀ g : tkH, rdI g 218 0 = some (g 218 0) := fun g => r218 (k := 0) (by decide)
  intro k
  induction k with
  | zero =>
    intro n t s g ht hn v e
    obtain ⟨n', rfl⟩ : ∃ n', n = n' + 1 := ⟨n - 1, by omega⟩
    have n2 := v.n.2
    refine ⟨g, BC.rf, e, ?_⟩
    rw [f_X9_recode_L30_s, show fld 217 0 = 218 by simp only [FL], rz, ob, e, v.n.1, if_pos (by rw [nI_leI (by omega) (by omega)]; omega)]
    rfl
  | succ k ih =>
    intro n t s g ht hn v e
    obtain ⟨n', rfl⟩ : ∃ n', n = n' + 1 := ⟨n - 1, by omega⟩
    have n2 := v.n.2
    have l := (v.l (t := t) (by omega)).2
    have ok := rcs_ok (m1 := m1) (t := t) h2 (cL s.1 t) 0 s v
    have E := e90 ok.2
    obtain ⟨g1, d1, d2, d3⟩ := m_rcL h1 h2 (t := t) (kx := fun gz108 z108_3 => f_X9_recode_L30 217 (nI m1) (nI m2) n' gz108 z108_3 (nI (t + 1))) (cL s.1 t) FU 0 s g (by omega) (by omega) (FU_gt (by omega)) v e
    obtain ⟨hf, e1, e2, e3⟩ := ih n' (t + 1) (rcs m1 m2 t (cL s.1 t) 0 s) g1 (by rw [E.1]; omega) (by omega) ok.1 d2
    refine ⟨hf, d1.tr e1, e2, ?_⟩
    rw [f_X9_recode_L30_s, show fld 217 0 = 218 by simp only [FL], rz, ob, e, v.n.1, if_neg (by rw [nI_leI (by omega) (by omega)]; omega), nI_1]
    exact Eq.trans d3 e3
theorem op_recode {h : tkH} (I : Inv h) (a b : Int32) : OP (f_X8_recode h 0 a b) (fun g => f_X9_recode g 217 a b) := by
  have v := I.1
  have n2 := v.n.2
  by_cases ha : ∃ m, m < 16 ∧ a = nI m
  · obtain ⟨m1, hm1, rfl⟩ := ha
    by_cases hb : ∃ m, m < 16 ∧ b = nI m
    · obtain ⟨m2, hm2, rfl⟩ := hb
      obtain ⟨h1, k1, k2, K⟩ := mutK I
      obtain ⟨h2, c1, c2, c3⟩ := x_forgetAll (g := h1)
      have r2 : XR h2 1 (h 218) := I.2.1.be v (BE.of_eq (fun q g1 g2 => by rw [c1 q (by omega), k2 q (by omega)]))
      obtain ⟨h3, d1, d2, d3⟩ := x_rcT hm1 hm2 (cN (h 218)) FU 0 (h 218, 0) h2 (by show cN (h 218) + 0 = cN (h 218); omega) (FU_gt (by omega)) v r2
      obtain ⟨hk, m1', m2', m3, m4⟩ := K h3 (fun q g1 g2 => by rw [d1 q (by omega), c1 q g2]) (by rw [d1 0 (by omega), c1 0 (by omega)])
      obtain ⟨h4, e1, e2, e3⟩ := m_rcT hm1 hm2 (cN (h 218)) FU 0 (h 218, 0) hk (by show cN (h 218) + 0 = cN (h 218); omega) (FU_gt (by omega)) v m2'
      have d3' : f_X0_changeMotif h2 1 (nI m1) (nI m2) = _ := d3
      have e3' : f_X9_recode_L30 217 (nI m1) (nI m2) FU hk 0 0 = _ := e3
      refine ⟨nI (rct m1 m2 (cN (h 218)) 0 (h 218, 0)).2, h3, h4, ?_, ?_, m4 h4 e1 ?_ ?_ ?_⟩
      · unfold f_X8_recode
        rw [f00.1, f00.2.1, f00.2.2.1, nl16, x_in hm1 (by decide)]
        simp only [ob, i1f, eq_self, if_true, if_false]
        rw [x_in hm2 (by decide)]
        simp only [ob, i1f, eq_self, if_true, if_false]
        rw [k1, ob, c3, ob, d3', ob]
      · show f_X9_recode h3 217 (nI m1) (nI m2) = _
        unfold f_X9_recode
        rw [m_isMotif_t hm1]
        simp only [ob, i1f, eq_self, if_true, if_false]
        rw [m_isMotif_t hm2]
        simp only [ob, i1f, eq_self, if_true, if_false]
        rw [m1', ob, e3']
      · rw [e2]
        exact rct_ok hm2 _ _ _ v
      · rw [e2]
        exact d2
      · exact (c2 _).keep (d1 201 (by omega))
    · refine OP.f0 (c := -100001) I ?_ (fun g e => ?_)
      · unfold f_X8_recode f_X8_recode_J18
        rw [nl16, x_in hm1 (by decide)]
        simp only [ob, i1f, eq_self, if_true, if_false]
        rw [x_out hb (by decide)]
        simp only [ob, i1f, eq_self, if_true, if_false]
        rfl
      · show f_X9_recode g 217 (nI m1) b = _
        unfold f_X9_recode f_X9_recode_J14
        rw [m_isMotif_t hm1]
        simp only [ob, i1f, eq_self, if_true, if_false]
        rw [m_isMotif_f hb]
        simp only [ob, i1f, eq_self, if_true, if_false]
        rfl
  · refine OP.f0 (c := -100001) I ?_ (fun g e => ?_)
    · unfold f_X8_recode f_X8_recode_J18
      rw [nl16, x_out ha (by decide)]
      simp only [ob, i1f, eq_self, if_true, if_false]
      rfl
    · show f_X9_recode g 217 a b = _
      unfold f_X9_recode f_X9_recode_J14
      rw [m_isMotif_f ha]
      simp only [ob, i1f, eq_self, if_true, if_false]
      rfl
