/-! undo, all -/
theorem m_undoL {kx : tkH → Option (Int32 × tkH)} {k : Nat} (hk : k < 20) : ∀ (m n i : Nat) (g : tkH), m + i = 390 → m < n → g 217 2 = nI k → (∃ hf, BC 218 g hf ∧ (∀ x, x < 390 → i ≤ x → hf 218 x = g 219 (390 * k + x)) ∧ (∀ y, y < i → hf 218 y = g 218 y) ∧ f_X9_undo_L26 217 kx n g (nI i) = kx hf) := by
  intro m
  induction m with
  | zero =>
    intro n i g hi hn e2
    obtain ⟨n', rfl⟩ : ∃ n', n = n' + 1 := ⟨n - 1, by omega⟩
    refine ⟨g, BC.rf, fun x h1 h2 => by omega, fun _ _ => rfl, ?_⟩
    rw [f_X9_undo_L26_s, if_pos (by rw [nl390, nI_leI (by omega) (by omega)]; omega)]
  | succ m ih =>
    intro n i g hi hn e2
    obtain ⟨n', rfl⟩ : ∃ n', n = n' + 1 := ⟨n - 1, by omega⟩
    rw [f_X9_undo_L26_s, if_neg (by rw [nl390, nI_leI (by omega) (by omega)]; omega), show fld 217 0 = 218 by simp only [FL], show fld 217 1 = 219 by simp only [FL], e2, nl390, pk_mul, nI_add, r219 (by omega), ob, w218 (by omega), ob, nI_1]
    obtain ⟨hf, h1, h2, h3, h4⟩ := ih n' (i + 1) (tkup g 218 i (g 219 (k * 390 + i))) (by omega) (by omega) (by rw [up_a (by decide)]; exact e2)
    refine ⟨hf, BC.tr BC.up h1, fun x g1 g2 => ?_, fun y hy => ?_, h4⟩
    · by_cases e : x = i
      · subst e
        rw [h3 _ (by omega), up_s, show 390 * k + x = k * 390 + x by omega]
      · rw [h2 x g1 (by omega), up_a (by decide)]
    · rw [h3 y (by omega), up_i (by omega)]
theorem op_undo {h : tkH} (I : Inv h) : OP (f_X8_undo h 0) (fun g => f_X9_undo g 217) := by
  obtain ⟨i1, i2, i3, ⟨k, nx, k1, k2, k3, k4, k5, k6⟩, i5, i6⟩ := id I
  by_cases hz : k = 0
  · subst hz
    refine OP.f0 (c := -100006) I ?_ (fun g e => ?_)
    · unfold f_X8_undo
      rw [f00.2.1, k3, if_neg (by decide)]
      rfl
    · show f_X9_undo g 217 = _
      unfold f_X9_undo
      rw [e 217 (by decide), k4, if_pos (show nI 0 = 0 from rfl)]
      rw [m_fd, e 217 (by decide)]
  · -- the class
    have hp : ∃ pv, pv < 20 ∧ (nx + 19) % 20 = pv ∧ f_X3_giveBack h 10 1 = f_X3_giveBack_J19 10 1 h (nI pv) := by
      unfold f_X3_giveBack
      rw [k5]
      by_cases c : nx = 0
      · subst c
        exact ⟨19, by decide, rfl, by rw [if_pos (by decide)]; rfl⟩
      · exact ⟨nx - 1, by omega, by omega, by rw [if_neg (by rw [nl0, nI_leI (by omega) (by decide)]; omega), nI_m1 (by omega)]⟩
    obtain ⟨pv, hpv, epv, eg⟩ := hp
    obtain ⟨h1, a1, a2, a3⟩ := x_takeFrom (h := tkup h 10 1 (nI pv)) (b := 1) (c := 12 + 9 * pv) (Or.inl rfl) (Or.inr ⟨pv, hpv, rfl⟩) (by omega)
    have e10 : h1 10 2 = nI k := by rw [a1 10 (by omega), up_i (by decide)]; exact k3
    obtain ⟨h3, c1, c2, c3⟩ := x_forgetAll (g := tkup h1 10 2 (nI (k - 1)))
    have g217 : h3 217 = h 217 := by rw [c1 217 (by decide), up_a (by decide), a1 217 (by omega), up_a (by decide)]
    have Xo : ∀ q, q = 0 ∨ (11 ≤ q ∧ q ≠ 201) → h3 q = h q := fun q e => by rw [c1 q (by omega), up_a (by omega), a1 q (by omega), up_a (by omega)]
    obtain ⟨h4, d1, d2, d3, d4⟩ := m_undoL (kx := fun gz60 => some (gz60 217 2, gz60)) (k := k - 1) (by omega) 390 FU 0 (tkup h3 217 2 (nI (k - 1))) (by omega) (FU_gt (by omega)) up_s
    have E : ∀ q, q ≠ 217 → q ≠ 218 → h4 q = h3 q := fun q z1 z2 => by rw [d1 q z2, up_a z1]
    have e218 : ∀ x, x < 390 → h4 218 x = ps h (k - 1) x := fun x hx => by
      rw [d2 x hx (by omega), up_a (by decide), Xo 219 (by omega)]
      rfl
    have hk6 := k6 (k - 1) (by omega)
    have es : sl nx k (k - 1) = 12 + 9 * pv := by unfold sl; omega
    rw [es] at hk6
    refine ⟨nI (k - 1), h3, h4, ?_, ?_, hk6.1.ext e218, ?_, ?_, ⟨k - 1, pv, by omega, hpv, ?_, ?_, ?_, fun j hj => ?_⟩, ?_, fun s hs => ?_⟩
    · unfold f_X8_undo
      rw [f00.1, f00.2.1, f00.2.2.1, k3, if_pos (by rw [nl0, nI_ltI (by decide) (by omega)]; omega), eg]
      unfold f_X3_giveBack_J19
      rw [up_s, show fld 10 0 = 11 by simp only [FL], RA3 hpv, ob, a3, ob, ob, e10, nI_m1 (by omega), c3, ob, c1 10 (by decide), up_s]
    · show f_X9_undo h3 217 = _
      unfold f_X9_undo
      rw [g217, k4, if_neg (show ¬ nI k = 0 from nIne (b := 0) (by omega) (by decide) hz), nI_m1 (by omega), nl0, d4, d1 217 (by decide), up_s]
    · -- the book
      have r1 : XR (tkup h 10 1 (nI pv)) (12 + 9 * pv) (ps h (k - 1)) := hk6.2.be hk6.1 (BE.of_eq (fun q z1 z2 => up_a (by omega)))
      have r2 : XR h1 1 (ps h (k - 1)) := r1.be hk6.1 a2
      have r3 : XR h4 1 (ps h (k - 1)) := r2.be hk6.1 (BE.of_eq (fun q z1 z2 => by rw [E q (by omega) (by omega), c1 q (by omega), up_a (by omega)]))
      exact r3.ext hk6.1 e218
    · rw [E 0 (by omega) (by omega), Xo 0 (by omega), d1 217 (by decide), up_i (by decide), g217]
      exact i3
    · rw [E 10 (by omega) (by omega), c1 10 (by decide), up_s]
    · rw [d1 217 (by decide), up_s]
    · rw [E 10 (by omega) (by omega), c1 10 (by decide), up_i (by decide), a1 10 (by omega), up_s]
    · have e219 : h4 219 = h 219 := by rw [E 219 (by omega) (by omega), Xo 219 (by omega)]
      rw [ps_eq e219]
      have w := k6 j (by omega)
      have es2 : sl pv (k - 1) j = sl nx k j := by unfold sl; omega
      rw [es2]
      refine ⟨w.1, w.2.be w.1 (BE.of_eq (fun q z1 z2 => ?_))⟩
      unfold sl at z1 z2
      rw [E q (by omega) (by omega), Xo q (by omega)]
    · exact (c2 _).keep (E 201 (by omega) (by omega))
    · unfold Sh1
      rw [E (209 + 2 * s) (by omega) (by omega), E (210 + 2 * s) (by omega) (by omega), E 220 (by omega) (by omega), E 221 (by omega) (by omega), E 222 (by omega) (by omega), Xo (209 + 2 * s) (by omega), Xo (210 + 2 * s) (by omega), Xo 220 (by omega), Xo 221 (by omega), Xo 222 (by omega)]
      exact i6 s hs
/-- the STEPS of the first t tales -/
def smL (f : Nat → Int32) : Nat → Int32
  | 0 => 0
  | t + 1 => smL f t + f (70 + t)
theorem x_allL {h : tkH} (I : Inv h) : ∀ (m n t : Nat), m + t = cN (h 218) → m < n → f_X0_howManySteps_L4 1 n h (smL (h 218) t) (nI t) = some (smL (h 218) (cN (h 218)), h) := by
  have v := I.1
  have n2 := v.n.2
  intro m
  induction m with
  | zero =>
    intro n t ht hn
    obtain ⟨n', rfl⟩ : ∃ n', n = n' + 1 := ⟨n - 1, by omega⟩
    rw [f_X0_howManySteps_L4_s, I.x0, if_pos (by rw [nI_leI (by omega) (by omega)]; omega), show t = cN (h 218) by omega]
  | succ m ih =>
    intro n t ht hn
    obtain ⟨n', rfl⟩ : ∃ n', n = n' + 1 := ⟨n - 1, by omega⟩
    rw [f_X0_howManySteps_L4_s, I.x0, if_neg (by rw [nI_leI (by omega) (by omega)]; omega), show fld 1 5 = 6 by simp only [FL], rdI_n (by simp only [LN]; omega) (by simp only [LN]; decide), ob, (I.2.1.2.1 t (by omega)).2.2.2.2.1, nI_1]
    exact ih n' (t + 1) (by omega) (by omega)
theorem m_allL {g : tkH} {kx : tkH → Int32 → Option (Int32 × tkH)} (v : Vd (g 218)) : ∀ (m n t : Nat), m + t = cN (g 218) → m < n → f_X9_all_L20 217 kx n g (smL (g 218) t) (nI t) = kx g (smL (g 218) (cN (g 218))) := by
  have n2 := v.n.2
  have rz : rdI g 218 0 = some (g 218 0) := r218 (k := 0) (by decide)
  intro m
  induction m with
  | zero =>
    intro n t ht hn
    obtain ⟨n', rfl⟩ : ∃ n', n = n' + 1 := ⟨n - 1, by omega⟩
    rw [f_X9_all_L20_s, show fld 217 0 = 218 by simp only [FL], rz, ob, v.n.1, if_pos (by rw [nI_leI (by omega) (by omega)]; omega), show t = cN (g 218) by omega]
  | succ m ih =>
    intro n t ht hn
    obtain ⟨n', rfl⟩ : ∃ n', n = n' + 1 := ⟨n - 1, by omega⟩
    rw [f_X9_all_L20_s, show fld 217 0 = 218 by simp only [FL], rz, ob, v.n.1, if_neg (by rw [nI_leI (by omega) (by omega)]; omega), nl70, nI_add, r218 (by omega), ob, nI_1]
    exact ih n' (t + 1) (by omega) (by omega)
theorem op_all {h : tkH} (I : Inv h) (a : Int32) : OP (f_X8_all h 0 a) (fun g => f_X9_all g 217 a) := by
  have v := I.1
  have n2 := v.n.2
  have rz : ∀ g : tkH, rdI g 218 0 = some (g 218 0) := fun g => r218 (k := 0) (by decide)
  by_cases ha : ∃ w, w < 3 ∧ a = nI w
  · obtain ⟨w, hw, rfl⟩ := ha
    have MM : f_X9_all h 217 (nI w) = if nI w = 0 then some (h 218 0, h) else if nI w = 1 then some (smL (h 218) (cN (h 218)), h) else some (h 217 3, h) := by
      unfold f_X9_all
      rw [show f_X9_within h (nI w) 0 2 = some (1, h) from m_in (n := 2) (by omega) (by decide)]
      simp only [ob, i1f, eq_self, if_true, if_false]
      rw [show (0 : Int32) = smL (h 218) 0 from rfl]
      rw [show f_X9_all_L20 217 (fun gz48 z48_2 => if nI w = smL (h 218) 0 then (rdI gz48 (fld 217 0) (smL (h 218) 0)).bind fun v57 => some (v57, gz48) else if nI w = 1 then some (z48_2, gz48) else some (gz48 217 3, gz48)) FU h (smL (h 218) 0) (smL (h 218) 0) = f_X9_all_L20 217 (fun gz48 z48_2 => if nI w = smL (h 218) 0 then (rdI gz48 (fld 217 0) (smL (h 218) 0)).bind fun v57 => some (v57, gz48) else if nI w = 1 then some (z48_2, gz48) else some (gz48 217 3, gz48)) FU h (smL (h 218) 0) (nI 0) from rfl]
      rw [m_allL v (cN (h 218)) FU 0 (by omega) (FU_gt (by omega))]
      show (if nI w = 0 then (rdI h (fld 217 0) 0).bind fun v57 => some (v57, h) else if nI w = 1 then some (smL (h 218) (cN (h 218)), h) else some (h 217 3, h)) = _
      rw [show fld 217 0 = 218 by simp only [FL], rz, ob]
      rfl
    rcases (by omega : w = 0 ∨ w = 1 ∨ w = 2) with rfl | rfl | rfl
    · refine OP.q0 (r := h 218 0) I ?_ (by show f_X9_all h 217 (nI 0) = _; rw [MM, if_pos (show nI 0 = 0 from rfl)])
      unfold f_X8_all
      rw [if_pos (show nI 0 = 0 from rfl), f00.1, I.2.1.1]
    · refine OP.q0 (r := smL (h 218) (cN (h 218))) I ?_ (by show f_X9_all h 217 (nI 1) = _; rw [MM, if_neg (by decide), if_pos (show nI 1 = 1 from rfl)])
      unfold f_X8_all f_X0_howManySteps
      rw [if_neg (by decide), if_pos (show nI 1 = 1 from rfl), f00.1]
      have := x_allL I (cN (h 218)) FU 0 (by omega) (FU_gt (by omega))
      rw [show f_X0_howManySteps_L4 1 FU h 0 0 = f_X0_howManySteps_L4 1 FU h (smL (h 218) 0) (nI 0) from rfl, this, ob]
    · refine OP.q0 (r := h 0 6) I ?_ (by show f_X9_all h 217 (nI 2) = _; rw [MM, if_neg (by decide), if_neg (by decide), I.2.2.1])
      unfold f_X8_all
      rw [if_neg (by decide), if_neg (by decide), if_pos (show nI 2 = 2 from rfl)]
  · refine OP.f0 (c := -100001) I ?_ (fun g e => ?_)
    · unfold f_X8_all
      rw [if_neg (show ¬ a = 0 from fun q => ha ⟨0, by decide, q⟩), if_neg (show ¬ a = 1 from fun q => ha ⟨1, by decide, q⟩), if_neg (show ¬ a = 2 from fun q => ha ⟨2, by decide, q⟩)]
      rfl
    · show f_X9_all g 217 a = _
      unfold f_X9_all
      rw [nl2, m_out ha (by decide)]
      simp only [ob, i1f, eq_self, if_true, if_false]
      rfl
