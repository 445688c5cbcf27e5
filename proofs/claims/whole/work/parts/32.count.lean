/-! count, home -/
def hoc (f : Nat → Int32) (m t : Nat) : Nat → Nat
  | 0 => 0
  | i + 1 => if cS f t i 0 = m then hoc f m t i + 1 else hoc f m t i
theorem hoc_le {f : Nat → Int32} {m t : Nat} : ∀ i, hoc f m t i ≤ i
  | 0 => Nat.le_refl _
  | i + 1 => by
    have := hoc_le (f := f) (m := m) (t := t) i
    unfold hoc
    split <;> omega
theorem x_motif {g : tkH} {f : Nat → Int32} (v : Vd f) {t i : Nat} (ht : t < cN f) (hi : i < cL f t) : f_X8_motifOf g (nI (sc f t i)) = some (nI (cS f t i 0), g) := by
  have P := pk_all (v.s0 ht hi).2 (v.s1 ht hi).2 (v.s2 ht hi).2
  unfold f_X8_motifOf sc
  rw [P.2.1]
theorem x_oftenL {g : tkH} {f : Nat → Int32} (r : XR g 1 f) (v : Vd f) {t m : Nat} (ht : t < cN f) (hm : m < 16) : ∀ (k n i : Nat), k + i = cL f t → k < n → f_X0_howOften_L5 1 (nI t) (nI m) n g (nI (hoc f m t i)) (nI i) = some (nI (hoc f m t (cL f t)), g) := by
  have n2 := v.n.2
  have l := v.l ht
  have l6 : ln 6 = 10 := by simp only [LN]
  intro k
  induction k with
  | zero =>
    intro n i hi hn
    obtain ⟨n', rfl⟩ : ∃ n', n = n' + 1 := ⟨n - 1, by omega⟩
    rw [f_X0_howOften_L5_s, show fld 1 5 = 6 by simp only [FL], rdI_n (by omega) (by omega), ob, (r.2.1 t ht).2.2.2.2.1, l.1, if_pos (by rw [nI_leI (by omega) (by omega)]; omega), show i = cL f t by omega]
  | succ k ih =>
    intro n i hi hn
    obtain ⟨n', rfl⟩ : ∃ n', n = n' + 1 := ⟨n - 1, by omega⟩
    have s0 := v.s0 ht (i := i) (by omega)
    have z := ih n' (i + 1) (by omega) (by omega)
    rw [f_X0_howOften_L5_s, show fld 1 5 = 6 by simp only [FL], rdI_n (by omega) (by omega), ob, (r.2.1 t ht).2.2.2.2.1, l.1, if_neg (by rw [nI_leI (by omega) (by omega)]; omega), x_stepAt (by omega) (by omega), ob]
    simp only []
    rw [show g 7 (10 * t + i) = nI (sc f t i) from r.st v ht (by omega), x_motif v ht (by omega), ob]
    simp only []
    have hs : hoc f m t (i + 1) = if cS f t i 0 = m then hoc f m t i + 1 else hoc f m t i := rfl
    by_cases c : cS f t i 0 = m
    · rw [if_pos c] at hs
      rw [if_pos (by rw [c]), nI_1, nI_1, ← hs]
      exact z
    · rw [if_neg c] at hs
      rw [if_neg (nIne (by omega) (by omega) c), nI_1, ← hs]
      exact z
def atp (f : Nat → Int32) (a : Int32) (t : Nat) : Bool := decide (a = -1) || decide (f (50 + t) = a)
def sH (f : Nat → Int32) (m : Nat) (a : Int32) : Nat → Nat
  | 0 => 0
  | t + 1 => if atp f a t = true then sH f m a t + hoc f m t (cL f t) else sH f m a t
def dt (f : Nat → Int32) (t : Nat) : Nat := if torn f t = true ∧ cL f t < 10 then 1 else 0
def sD (f : Nat → Int32) (a : Int32) : Nat → Nat
  | 0 => 0
  | t + 1 => if atp f a t = true then sD f a t + dt f t else sD f a t
def sM (f : Nat → Int32) (m : Nat) (a d : Int32) : Nat → Nat
  | 0 => 0
  | t + 1 => if atp f a t = true then sM f m a d t + hoc f m t (cL f t) + (if d = 0 then 0 else dt f t) else sM f m a d t
theorem sM_eq {f : Nat → Int32} {m : Nat} {a d : Int32} : ∀ t, sM f m a d t = sH f m a t + (if d = 0 then 0 else sD f a t)
  | 0 => by unfold sM sH sD; split <;> rfl
  | t + 1 => by
    have h := sM_eq (f := f) (m := m) (a := a) (d := d) t
    unfold sM sH sD
    by_cases c : atp f a t = true
    · rw [if_pos c, if_pos c, if_pos c, h]
      split <;> omega
    · rw [if_neg c, if_neg c, if_neg c, h]
theorem sH_le {f : Nat → Int32} (v : Vd f) {m : Nat} {a : Int32} : ∀ t, t ≤ cN f → sH f m a t ≤ 10 * t
  | 0, _ => Nat.le_refl _
  | t + 1, h => by
    have h1 := sH_le v (m := m) (a := a) t (by omega)
    have h2 := hoc_le (f := f) (m := m) (t := t) (cL f t)
    have l := (v.l (t := t) (by omega)).2
    unfold sH
    split <;> omega
theorem x_isAt {g : tkH} {f : Nat → Int32} (r : XR g 1 f) (v : Vd f) {a : Int32} {t : Nat} (ht : t < cN f) : f_X0_isAt g 1 (nI t) a = some (if atp f a t = true then 1 else 0, g) := by
  have n2 := v.n.2
  have l3 : ln 3 = 10 := by simp only [LN]
  unfold f_X0_isAt atp
  by_cases c : a = -1
  · rw [if_pos c, if_pos (by simp [c])]
  · rw [if_neg c, show fld 1 2 = 3 by simp only [FL], rdI_n (by omega) (by omega), ob, (r.2.1 t ht).2.1]
    by_cases d : f (50 + t) = a
    · rw [if_pos d, if_pos (by simp [d])]
    · rw [if_neg d, if_neg (by simp [c, d])]
theorem x_oftenAt {g : tkH} {f : Nat → Int32} (r : XR g 1 f) (v : Vd f) {m : Nat} (hm : m < 16) {a : Int32} : ∀ (k n t : Nat), k + t = cN f → k < n → f_X0_howOftenAt_L5 1 a (nI m) n g (nI (sH f m a t)) (nI t) = some (nI (sH f m a (cN f)), g) := by
  have n2 := v.n.2
  intro k
  induction k with
  | zero =>
    intro n t ht hn
    obtain ⟨n', rfl⟩ : ∃ n', n = n' + 1 := ⟨n - 1, by omega⟩
    rw [f_X0_howOftenAt_L5_s, r.1, v.n.1, if_pos (by rw [nI_leI (by omega) (by omega)]; omega), show t = cN f by omega]
  | succ k ih =>
    intro n t ht hn
    obtain ⟨n', rfl⟩ : ∃ n', n = n' + 1 := ⟨n - 1, by omega⟩
    have z := ih n' (t + 1) (by omega) (by omega)
    have hs : sH f m a (t + 1) = if atp f a t = true then sH f m a t + hoc f m t (cL f t) else sH f m a t := rfl
    rw [f_X0_howOftenAt_L5_s, r.1, v.n.1, if_neg (by rw [nI_leI (by omega) (by omega)]; omega), x_isAt r v (by omega), nI_1]
    by_cases c : atp f a t = true
    · rw [if_pos c] at hs ⊢
      simp only [ob, i1f, if_false]
      have q := x_oftenL r v (t := t) (by omega) hm (cL f t) FU 0 (by omega) (FU_gt (by have := (v.l (t := t) (by omega)).2; omega))
      have q' : f_X0_howOften g 1 (nI m) (nI t) = _ := q
      rw [q', ob]
      simp only []
      rw [nI_add, ← hs]
      exact z
    · rw [if_neg c] at hs ⊢
      simp only [ob, eq_self, if_true]
      rw [← hs]
      exact z
theorem x_doubtsL {g : tkH} {f : Nat → Int32} (r : XR g 1 f) (v : Vd f) {a : Int32} : ∀ (k n t : Nat), k + t = cN f → k < n → f_X0_doubtsAt_L4 1 a n g (nI (sD f a t)) (nI t) = some (nI (sD f a (cN f)), g) := by
  have n2 := v.n.2
  have l6 : ln 6 = 10 := by simp only [LN]
  intro k
  induction k with
  | zero =>
    intro n t ht hn
    obtain ⟨n', rfl⟩ : ∃ n', n = n' + 1 := ⟨n - 1, by omega⟩
    rw [f_X0_doubtsAt_L4_s, r.1, v.n.1, if_pos (by rw [nI_leI (by omega) (by omega)]; omega), show t = cN f by omega]
  | succ k ih =>
    intro n t ht hn
    obtain ⟨n', rfl⟩ : ∃ n', n = n' + 1 := ⟨n - 1, by omega⟩
    have z := ih n' (t + 1) (by omega) (by omega)
    have l := v.l (t := t) (by omega)
    have hs : sD f a (t + 1) = if atp f a t = true then sD f a t + dt f t else sD f a t := rfl
    rw [f_X0_doubtsAt_L4_s, r.1, v.n.1, if_neg (by rw [nI_leI (by omega) (by omega)]; omega), x_isAt r v (by omega), nI_1]
    by_cases c : atp f a t = true
    · rw [if_pos c] at hs ⊢
      simp only [ob, i1f, if_false]
      rw [x_isTorn r v (by omega), ob]
      simp only []
      unfold dt at hs
      cases e : torn f t with
      | false =>
        rw [if_pos (show bI false = 0 from rfl)]
        rw [if_neg (by rw [e]; simp)] at hs
        replace hs : sD f a (t + 1) = sD f a t := hs
        rw [← hs]
        exact z
      | true =>
        rw [if_neg (show ¬ bI true = 0 by decide), show fld 1 5 = 6 by simp only [FL], rdI_n (by omega) (by omega), ob, (r.2.1 t (by omega)).2.2.2.2.1, l.1, nl10]
        by_cases c2 : cL f t < 10
        · rw [if_pos ⟨e, c2⟩] at hs
          rw [if_neg (by rw [nI_leI (by omega) (by omega)]; omega), nI_1, ← hs]
          exact z
        · rw [if_neg (by omega)] at hs
          replace hs : sD f a (t + 1) = sD f a t := hs
          rw [if_pos (by rw [nI_leI (by omega) (by omega)]; omega), ← hs]
          exact z
    · rw [if_neg c] at hs ⊢
      simp only [ob, eq_self, if_true]
      rw [← hs]
      exact z
theorem m_countL {g : tkH} {f : Nat → Int32} (v : Vd f) (e : g 218 = f) {t m : Nat} (ht : t < cN f) (hm : m < 16) (A : Nat) {kx : tkH → Int32 → Option (Int32 × tkH)} : ∀ (k n i : Nat), k + i = cL f t → k < n → f_X9_counts_L42 217 (nI t) (nI m) kx n g (nI (A + hoc f m t i)) (nI i) = kx g (nI (A + hoc f m t (cL f t))) := by
  have n2 := v.n.2
  have l := v.l ht
  intro k
  induction k with
  | zero =>
    intro n i hi hn
    obtain ⟨n', rfl⟩ : ∃ n', n = n' + 1 := ⟨n - 1, by omega⟩
    rw [f_X9_counts_L42_s, show fld 217 0 = 218 by simp only [FL], nl70, nI_add, r218 (by omega), ob, e, l.1, if_pos (by rw [nI_leI (by omega) (by omega)]; omega), show i = cL f t by omega]
  | succ k ih =>
    intro n i hi hn
    obtain ⟨n', rfl⟩ : ∃ n', n = n' + 1 := ⟨n - 1, by omega⟩
    have s0 := v.s0 ht (i := i) (by omega)
    have z := ih n' (i + 1) (by omega) (by omega)
    have st : f_X9_stepOf g 217 (nI t) (nI i) 0 = some (nI (cS f t i 0), g) := by
      have q := m_stepOf (h := g) (t := t) (i := i) (w := 0) (by omega) (by omega) (by decide)
      rw [e] at q
      rw [← s0.1]
      exact q
    have hs : hoc f m t (i + 1) = if cS f t i 0 = m then hoc f m t i + 1 else hoc f m t i := rfl
    rw [f_X9_counts_L42_s, show fld 217 0 = 218 by simp only [FL], nl70, nI_add, r218 (by omega), ob, e, l.1, if_neg (by rw [nI_leI (by omega) (by omega)]; omega), st, ob]
    simp only []
    by_cases c : cS f t i 0 = m
    · rw [if_pos c] at hs
      rw [if_pos (by rw [c]), nI_1, nI_1, Nat.add_assoc, ← hs]
      exact z
    · rw [if_neg c] at hs
      rw [if_neg (nIne (by omega) (by omega) c), nI_1, show (0 : Int32) = nI 0 from rfl, nI_add, Nat.add_zero, ← hs]
      exact z
theorem m_counts {g : tkH} {f : Nat → Int32} (v : Vd f) (e : g 218 = f) {m : Nat} (hm : m < 16) {a d : Int32} : ∀ (k n t : Nat), k + t = cN f → k < n → f_X9_counts_L6 217 a (nI m) d n g (nI (sM f m a d t)) (nI t) = some (nI (sM f m a d (cN f)), g) := by
  have n2 := v.n.2
  have rz : ∀ g : tkH, rdI g 218 0 = some (g 218 0) := fun g => r218 (k := 0) (by decide)
  intro k
  induction k with
  | zero =>
    intro n t ht hn
    obtain ⟨n', rfl⟩ : ∃ n', n = n' + 1 := ⟨n - 1, by omega⟩
    rw [f_X9_counts_L6_s, show fld 217 0 = 218 by simp only [FL], rz, ob, e, v.n.1, if_pos (by rw [nI_leI (by omega) (by omega)]; omega), show t = cN f by omega]
  | succ k ih =>
    intro n t ht hn
    obtain ⟨n', rfl⟩ : ∃ n', n = n' + 1 := ⟨n - 1, by omega⟩
    have z := ih n' (t + 1) (by omega) (by omega)
    have l := v.l (t := t) (by omega)
    have hs : sM f m a d (t + 1) = if atp f a t = true then sM f m a d t + hoc f m t (cL f t) + (if d = 0 then 0 else dt f t) else sM f m a d t := rfl
    have J : atp f a t = true → f_X9_counts_J39 217 (nI t) (nI m) d (f_X9_counts_L6 217 a (nI m) d n') (nI (sM f m a d t)) g = some (nI (sM f m a d (cN f)), g) := by
      intro c
      rw [if_pos c] at hs
      unfold f_X9_counts_J39
      have q := m_countL v e (t := t) (by omega) hm (sM f m a d t) (kx := fun gz86 z86_4 => if d = 0 then ((f_X9_counts_L6 217 a (nI m) d n') gz86 (z86_4 + 0) (nI t + 1)) else ((f_X9_isTorn gz86 217 (nI t)).bind fun x95 => if x95.1 = 0 then ((f_X9_counts_L6 217 a (nI m) d n') x95.2 (z86_4 + 0) (nI t + 1)) else ((rdI x95.2 (fld 217 0) (70 + nI t)).bind fun v110 => if 10 ≤ v110 then ((f_X9_counts_L6 217 a (nI m) d n') x95.2 (z86_4 + 0) (nI t + 1)) else ((f_X9_counts_L6 217 a (nI m) d n') x95.2 (z86_4 + 1) (nI t + 1))))) (cL f t) FU 0 (by omega) (FU_gt (by omega))
      refine Eq.trans q ?_
      have a0 : ∀ x, nI x + 0 = nI x := fun x => by rw [show (0 : Int32) = nI 0 from rfl, nI_add, Nat.add_zero]
      rw [nI_1, a0]
      by_cases d0 : d = 0
      · rw [if_pos d0] at hs
        replace hs : sM f m a d (t + 1) = sM f m a d t + hoc f m t (cL f t) := hs
        rw [if_pos d0, ← hs]
        exact z
      · rw [if_neg d0] at hs
        rw [if_neg d0, m_isTorn (by rw [e]; exact v) (by rw [e]; omega), ob, e]
        simp only []
        unfold dt at hs
        cases e2 : torn f t with
        | false =>
          rw [if_pos (show bI false = 0 from rfl)]
          rw [if_neg (by rw [e2]; simp)] at hs
          replace hs : sM f m a d (t + 1) = sM f m a d t + hoc f m t (cL f t) := hs
          rw [← hs]
          exact z
        | true =>
          rw [if_neg (show ¬ bI true = 0 by decide), show fld 217 0 = 218 by simp only [FL], nl70, nI_add, r218 (by omega), ob, e, l.1, nl10]
          by_cases c2 : cL f t < 10
          · rw [if_pos ⟨e2, c2⟩] at hs
            rw [if_neg (by rw [nI_leI (by omega) (by omega)]; omega), nI_1, ← hs]
            exact z
          · rw [if_neg (by omega)] at hs
            replace hs : sM f m a d (t + 1) = sM f m a d t + hoc f m t (cL f t) := hs
            rw [if_pos (by rw [nI_leI (by omega) (by omega)]; omega), ← hs]
            exact z
    rw [f_X9_counts_L6_s, show fld 217 0 = 218 by simp only [FL], rz, ob, e, v.n.1, if_neg (by rw [nI_leI (by omega) (by omega)]; omega)]
    by_cases c : a = -1
    · rw [if_pos c]
      exact J (by unfold atp; simp [c])
    · rw [if_neg c, nl50, nI_add, r218 (by omega), ob, e]
      by_cases c2 : f (50 + t) = a
      · rw [if_pos c2]
        exact J (by unfold atp; simp [c2])
      · rw [if_neg c2, nI_1]
        rw [if_neg (by unfold atp; simp [c, c2])] at hs
        rw [← hs]
        exact z
theorem op_count {h : tkH} (I : Inv h) (a b c : Int32) : OP (f_X8_count h 0 a b c) (fun g => f_X9_count g 217 a b c) := by
  have v := I.1
  have n2 := v.n.2
  by_cases ha : ∃ m, m < 16 ∧ a = nI m
  · obtain ⟨m, hm, rfl⟩ := ha
    have JX : f_X8_count_J30 0 (nI m) b c h = some (nI (sM (h 218) m b c (cN (h 218))), h) := by
      unfold f_X8_count_J30
      have q1 := x_oftenAt I.2.1 v hm (a := b) (cN (h 218)) FU 0 (by omega) (FU_gt (by omega))
      have q1' : f_X0_howOftenAt h 1 (nI m) b = _ := q1
      have q2 := x_doubtsL I.2.1 v (a := b) (cN (h 218)) FU 0 (by omega) (FU_gt (by omega))
      have q2' : f_X0_doubtsAt h 1 b = _ := q2
      rw [f00.1, q1', ob, sM_eq]
      simp only []
      by_cases z : c = 0
      · rw [if_pos z, if_pos z]
        rfl
      · rw [if_neg z, if_neg z, q2', ob]
        simp only []
        rw [nI_add]
    have JM : ∀ g : tkH, g 218 = h 218 → f_X9_count_J19 217 (nI m) b c g = some (nI (sM (h 218) m b c (cN (h 218))), g) := by
      intro g e
      unfold f_X9_count_J19
      have q := m_counts v e hm (a := b) (d := c) (cN (h 218)) FU 0 (by omega) (FU_gt (by omega))
      have q' : f_X9_counts g 217 (nI m) b c = _ := q
      rw [q', ob]
    by_cases hb : b = -1
    · refine OP.q0 (r := nI (sM (h 218) m b c (cN (h 218)))) I ?_ ?_
      · unfold f_X8_count
        rw [nl16, x_in hm (by decide)]
        simp only [ob, i1f, eq_self, if_true, if_false]
        rw [if_pos hb]
        exact JX
      · show f_X9_count h 217 (nI m) b c = _
        unfold f_X9_count
        rw [m_isMotif_t hm]
        simp only [ob, i1f, eq_self, if_true, if_false]
        rw [if_pos hb]
        exact JM h rfl
    · by_cases hp : ∃ p, p < 6 ∧ b = nI p
      · obtain ⟨p, hp, rfl⟩ := hp
        refine OP.q0 (r := nI (sM (h 218) m (nI p) c (cN (h 218)))) I ?_ ?_
        · unfold f_X8_count
          rw [nl16, x_in hm (by decide)]
          simp only [ob, i1f, eq_self, if_true, if_false]
          rw [if_neg hb, nl6, x_in hp (by decide)]
          simp only [ob, i1f, eq_self, if_true, if_false]
          exact JX
        · show f_X9_count h 217 (nI m) (nI p) c = _
          unfold f_X9_count
          rw [m_isMotif_t hm]
          simp only [ob, i1f, eq_self, if_true, if_false]
          rw [if_neg hb, m_isPlace_t hp]
          simp only [ob, i1f, eq_self, if_true, if_false]
          exact JM h rfl
      · refine OP.f0 (c := -100001) I ?_ (fun g e => ?_)
        · unfold f_X8_count f_X8_count_J23
          rw [nl16, x_in hm (by decide)]
          simp only [ob, i1f, eq_self, if_true, if_false]
          rw [if_neg hb, nl6, x_out hp (by decide)]
          simp only [ob, i1f, eq_self, if_true, if_false]
          rfl
        · show f_X9_count g 217 (nI m) b c = _
          unfold f_X9_count f_X9_count_J29
          rw [m_isMotif_t hm]
          simp only [ob, i1f, eq_self, if_true, if_false]
          rw [if_neg hb, m_isPlace_f hp]
          simp only [ob, i1f, eq_self, if_true, if_false]
          rfl
  · refine OP.f0 (c := -100001) I ?_ (fun g e => ?_)
    · unfold f_X8_count f_X8_count_J23
      rw [nl16, x_out ha (by decide)]
      simp only [ob, i1f, eq_self, if_true, if_false]
      rfl
    · show f_X9_count g 217 a b c = _
      unfold f_X9_count f_X9_count_J29
      rw [m_isMotif_f ha]
      simp only [ob, i1f, eq_self, if_true, if_false]
      rfl
/-- the first of the places where it is told most often -/
def hm_ (c : Nat → Nat) : Nat → Nat
  | 0 => 0
  | p + 1 => if c (p + 1) ≤ c (hm_ c p) then hm_ c p else p + 1
theorem hm_le {c : Nat → Nat} : ∀ p, hm_ c p ≤ p
  | 0 => Nat.le_refl _
  | p + 1 => by
    have := hm_le (c := c) p
    unfold hm_
    split <;> omega
def eH (c : Nat → Nat) (p : Nat) : Int32 := if c (hm_ c p) = 0 then -1 else nI (hm_ c p)
def cH (f : Nat → Int32) (m p : Nat) : Nat := sH f m (nI p) (cN f)
theorem cH_le {f : Nat → Int32} (v : Vd f) {m p : Nat} : cH f m p ≤ 100 := by
  have := sH_le v (m := m) (a := nI p) (cN f) (Nat.le_refl _)
  have := v.n.2
  unfold cH
  omega
theorem x_homeL {g : tkH} {f : Nat → Int32} (r : XR g 1 f) (v : Vd f) {m : Nat} (hm : m < 16) {kx : tkH → Int32 → Option (Int32 × tkH)} : ∀ (k n p : Nat), k + p = 5 → k < n → f_X8_home_L23 0 (nI m) kx n g (eH (cH f m) p) (nI (cH f m (hm_ (cH f m) p))) (nI (p + 1)) = kx g (eH (cH f m) 5) := by
  have n2 := v.n.2
  intro k
  induction k with
  | zero =>
    intro n p hp hn
    obtain ⟨n', rfl⟩ : ∃ n', n = n' + 1 := ⟨n - 1, by omega⟩
    rw [f_X8_home_L23_s, nl6, if_pos (by rw [nI_leI (by omega) (by omega)]; omega), show p = 5 by omega]
  | succ k ih =>
    intro n p hp hn
    obtain ⟨n', rfl⟩ : ∃ n', n = n' + 1 := ⟨n - 1, by omega⟩
    have z := ih n' (p + 1) (by omega) (by omega)
    have q := x_oftenAt r v hm (a := nI (p + 1)) (cN f) FU 0 (by omega) (FU_gt (by omega))
    have q' : f_X0_howOftenAt g 1 (nI m) (nI (p + 1)) = some (nI (cH f m (p + 1)), g) := q
    have c1 := cH_le v (m := m) (p := p + 1)
    have c2 := cH_le v (m := m) (p := hm_ (cH f m) p)
    have hs : hm_ (cH f m) (p + 1) = if cH f m (p + 1) ≤ cH f m (hm_ (cH f m) p) then hm_ (cH f m) p else p + 1 := rfl
    rw [f_X8_home_L23_s, nl6, if_neg (by rw [nI_leI (by omega) (by omega)]; omega), f00.1, q', ob]
    simp only []
    rw [nI_1]
    by_cases c : cH f m (p + 1) ≤ cH f m (hm_ (cH f m) p)
    · rw [if_pos c] at hs
      rw [if_pos (by rw [nI_leI (by omega) (by omega)]; omega)]
      unfold eH at z ⊢
      rw [hs] at z
      exact z
    · rw [if_neg c] at hs
      rw [if_neg (by rw [nI_leI (by omega) (by omega)]; omega)]
      have ne : ¬ cH f m (p + 1) = 0 := by omega
      unfold eH at z ⊢
      rw [hs, if_neg ne] at z
      exact z
theorem m_homeL {g : tkH} {f : Nat → Int32} (v : Vd f) (e : g 218 = f) {m : Nat} (hm : m < 16) {kx : tkH → Int32 → Option (Int32 × tkH)} : ∀ (k n p : Nat), k + p = 5 → k < n → f_X9_home_L18 217 (nI m) kx n g (nI (hm_ (cH f m) p)) (nI (p + 1)) = kx g (nI (hm_ (cH f m) 5)) := by
  have n2 := v.n.2
  have cc : ∀ p, f_X9_counts g 217 (nI m) (nI p) 0 = some (nI (cH f m p), g) := fun p => by
    have q := m_counts v e hm (a := nI p) (d := 0) (cN f) FU 0 (by omega) (FU_gt (by omega))
    have q' : f_X9_counts g 217 (nI m) (nI p) 0 = _ := q
    rw [q', sM_eq, if_pos rfl]
    rfl
  intro k
  induction k with
  | zero =>
    intro n p hp hn
    obtain ⟨n', rfl⟩ : ∃ n', n = n' + 1 := ⟨n - 1, by omega⟩
    rw [f_X9_home_L18_s, nl6, if_pos (by rw [nI_leI (by omega) (by omega)]; omega), show p = 5 by omega]
  | succ k ih =>
    intro n p hp hn
    obtain ⟨n', rfl⟩ : ∃ n', n = n' + 1 := ⟨n - 1, by omega⟩
    have z := ih n' (p + 1) (by omega) (by omega)
    have c1 := cH_le v (m := m) (p := p + 1)
    have c2 := cH_le v (m := m) (p := hm_ (cH f m) p)
    have hs : hm_ (cH f m) (p + 1) = if cH f m (p + 1) ≤ cH f m (hm_ (cH f m) p) then hm_ (cH f m) p else p + 1 := rfl
    rw [f_X9_home_L18_s, nl6, if_neg (by rw [nI_leI (by omega) (by omega)]; omega), cc, ob]
    simp only []
    rw [cc, ob]
    simp only []
    rw [nI_1]
    by_cases c : cH f m (p + 1) ≤ cH f m (hm_ (cH f m) p)
    · rw [if_pos c] at hs
      rw [if_pos (by rw [nI_leI (by omega) (by omega)]; omega), ← hs]
      exact z
    · rw [if_neg c] at hs
      rw [if_neg (by rw [nI_leI (by omega) (by omega)]; omega)]
      rw [hs] at z
      exact z
theorem op_home {h : tkH} (I : Inv h) (a : Int32) : OP (f_X8_home h 0 a) (fun g => f_X9_home g 217 a) := by
  have v := I.1
  have n2 := v.n.2
  by_cases ha : ∃ m, m < 16 ∧ a = nI m
  · obtain ⟨m, hm, rfl⟩ := ha
    have c5 := cH_le v (m := m) (p := hm_ (cH (h 218) m) 5)
    have h5 := hm_le (c := cH (h 218) m) 5
    obtain ⟨n', hn'⟩ : ∃ n', FU = n' + 1 := ⟨FU - 1, by have := FU_gt (m := 20) (by decide); omega⟩
    have hn2 : 20 < n' + 1 := by rw [← hn']; exact FU_gt (by decide)
    have hX : f_X8_home h 0 (nI m) = if cH (h 218) m (hm_ (cH (h 218) m) 5) = 0 then some (-100006, tkup h 0 6 (h 0 6 + 1)) else some (nI (hm_ (cH (h 218) m) 5), h) := by
      have q := x_oftenAt I.2.1 v hm (a := nI 0) (cN (h 218)) FU 0 (by omega) (FU_gt (by omega))
      have q' : f_X0_howOftenAt h 1 (nI m) 0 = some (nI (cH (h 218) m 0), h) := q
      have c0 := cH_le v (m := m) (p := 0)
      have z := x_homeL I.2.1 v hm (kx := fun gz60 z60_2 => if 0 ≤ z60_2 then (some (z60_2, gz60)) else ((f_X8_finding gz60 0 (-100006)).bind fun x67 => some (x67.1, x67.2))) 5 n' 0 (by omega) (by omega)
      unfold f_X8_home
      rw [nl16, x_in hm (by decide)]
      simp only [ob, i1f, eq_self, if_true, if_false]
      rw [hn', f_X8_home_L23_s, if_neg (by decide), f00.1, q', ob]
      simp only []
      have fin : (if nI (cH (h 218) m 0) ≤ 0 then f_X8_home_L23 0 (nI m) (fun gz60 z60_2 => if 0 ≤ z60_2 then (some (z60_2, gz60)) else ((f_X8_finding gz60 0 (-100006)).bind fun x67 => some (x67.1, x67.2))) n' h (-1) 0 (0 + 1) else f_X8_home_L23 0 (nI m) (fun gz60 z60_2 => if 0 ≤ z60_2 then (some (z60_2, gz60)) else ((f_X8_finding gz60 0 (-100006)).bind fun x67 => some (x67.1, x67.2))) n' h 0 (nI (cH (h 218) m 0)) (0 + 1)) = f_X8_home_L23 0 (nI m) (fun gz60 z60_2 => if 0 ≤ z60_2 then (some (z60_2, gz60)) else ((f_X8_finding gz60 0 (-100006)).bind fun x67 => some (x67.1, x67.2))) n' h (eH (cH (h 218) m) 0) (nI (cH (h 218) m (hm_ (cH (h 218) m) 0))) (nI (0 + 1)) := by
        have e0 : hm_ (cH (h 218) m) 0 = 0 := rfl
        unfold eH
        rw [e0]
        by_cases c : cH (h 218) m 0 = 0
        · rw [if_pos c, c, if_pos (show nI 0 ≤ 0 by decide)]
          rfl
        · rw [if_neg c, if_neg (show ¬ nI (cH (h 218) m 0) ≤ 0 from nI_nle (by omega) (by omega))]
          rfl
      refine fin.trans (z.trans ?_)
      show (if 0 ≤ eH (cH (h 218) m) 5 then _ else _) = _
      unfold eH
      by_cases c : cH (h 218) m (hm_ (cH (h 218) m) 5) = 0
      · rw [if_pos c, if_pos c, if_neg (by decide)]
        rfl
      · rw [if_neg c, if_neg c, if_pos (nI_pos' (by omega))]
    have hM : ∀ g : tkH, g 218 = h 218 → f_X9_home g 217 (nI m) = if cH (h 218) m (hm_ (cH (h 218) m) 5) = 0 then some (-100006, tkup g 217 3 (g 217 3 + 1)) else some (nI (hm_ (cH (h 218) m) 5), g) := by
      intro g e
      have z := m_homeL v e hm (kx := fun gz53 z53_2 => (f_X9_counts gz53 217 (nI m) z53_2 0).bind fun x57 => if x57.1 = 0 then ((f_X9_finding x57.2 217 (-100006)).bind fun x66 => some (x66.1, x66.2)) else (some (z53_2, x57.2))) 5 FU 0 (by omega) (FU_gt (by omega))
      have z' : f_X9_home_L18 217 (nI m) (fun gz53 z53_2 => (f_X9_counts gz53 217 (nI m) z53_2 0).bind fun x57 => if x57.1 = 0 then ((f_X9_finding x57.2 217 (-100006)).bind fun x66 => some (x66.1, x66.2)) else (some (z53_2, x57.2))) FU g 0 1 = _ := z
      have q := m_counts v e hm (a := nI (hm_ (cH (h 218) m) 5)) (d := 0) (cN (h 218)) FU 0 (by omega) (FU_gt (by omega))
      have q' : f_X9_counts g 217 (nI m) (nI (hm_ (cH (h 218) m) 5)) 0 = _ := q
      rw [sM_eq, if_pos rfl] at q'
      unfold f_X9_home
      rw [m_isMotif_t hm]
      simp only [ob, i1f, eq_self, if_true, if_false]
      rw [z', q', ob]
      show (if nI (cH (h 218) m (hm_ (cH (h 218) m) 5)) = 0 then _ else _) = _
      by_cases c : cH (h 218) m (hm_ (cH (h 218) m) 5) = 0
      · rw [if_pos c, c, if_pos (show nI 0 = 0 from rfl)]
        rfl
      · rw [if_neg c, if_neg (nI_ne0 (by omega) (by omega))]
    by_cases c : cH (h 218) m (hm_ (cH (h 218) m) 5) = 0
    · exact OP.f0 I (by rw [hX, if_pos c]) (fun g e => by show f_X9_home g 217 (nI m) = _; rw [hM g (e 218 (by decide)), if_pos c])
    · exact OP.q0 I (by rw [hX, if_neg c]) (by show f_X9_home h 217 (nI m) = _; rw [hM h rfl, if_neg c])
  · refine OP.f0 (c := -100001) I ?_ (fun g e => ?_)
    · unfold f_X8_home
      rw [nl16, x_out ha (by decide)]
      simp only [ob, i1f, eq_self, if_true, if_false]
      rfl
    · show f_X9_home g 217 a = _
      unfold f_X9_home
      rw [m_isMotif_f ha]
      simp only [ob, i1f, eq_self, if_true, if_false]
      rfl
