/-! what is kept of earlier acts: the class's ring of books, the reference's row -/
def isB (b : Nat) : Prop := b = 1 ∨ ∃ j, j < 20 ∧ b = 12 + 9 * j
theorem isB_f {b : Nat} (h : isB b) : fld b 1 = b + 1 ∧ fld b 2 = b + 2 ∧ fld b 3 = b + 3 ∧ fld b 4 = b + 4 ∧ fld b 5 = b + 5 ∧ fld b 6 = b + 6 ∧ fld b 7 = b + 7 ∧ fld b 8 = b + 8 := by
  rcases h with rfl | ⟨j, hj, rfl⟩
  · simp only [FL]
    decide
  · exact ⟨(FB hj (i := 0) (by decide)).1, (FB hj (i := 1) (by decide)).1, (FB hj (i := 2) (by decide)).1, (FB hj (i := 3) (by decide)).1, (FB hj (i := 4) (by decide)).1, (FB hj (i := 5) (by decide)).1, (FB hj (i := 6) (by decide)).1, (FB hj (i := 7) (by decide)).1⟩
theorem isB_l {b : Nat} (h : isB b) : ln (b + 1) = 10 ∧ ln (b + 2) = 10 ∧ ln (b + 3) = 10 ∧ ln (b + 4) = 10 ∧ ln (b + 5) = 10 ∧ ln (b + 6) = 100 ∧ ln (b + 7) = 3 ∧ ln (b + 8) = 36 := by
  rcases h with rfl | ⟨j, hj, rfl⟩
  · decide +kernel
  · exact ⟨(FB hj (i := 0) (by decide)).2.2, (FB hj (i := 1) (by decide)).2.2, (FB hj (i := 2) (by decide)).2.2, (FB hj (i := 3) (by decide)).2.2, (FB hj (i := 4) (by decide)).2.2, (FB hj (i := 5) (by decide)).2.2, (FB hj (i := 6) (by decide)).2.2, (FB hj (i := 7) (by decide)).2.2⟩
theorem cp_0 {h : tkH} {s d n : Nat} (hs : ln s = n) (hd : ln d = n) (hn : n < 2 ^ 31) : cpI h s 0 d 0 (nI n) = some (tkcp h s 0 d 0 n) := cpI_n (sp := 0) (dp := 0) (by omega) (by omega) (by omega) (by omega)
/-- the books at b and c hold the same -/
def BE (h : tkH) (c : Nat) (hf : tkH) (b : Nat) : Prop := hf b 0 = h c 0 ∧ (∀ i, i < 10 → hf (b + 1) i = h (c + 1) i) ∧ (∀ i, i < 10 → hf (b + 2) i = h (c + 2) i) ∧ (∀ i, i < 10 → hf (b + 3) i = h (c + 3) i) ∧ (∀ i, i < 10 → hf (b + 4) i = h (c + 4) i) ∧ (∀ i, i < 10 → hf (b + 5) i = h (c + 5) i) ∧ (∀ i, i < 100 → hf (b + 6) i = h (c + 6) i) ∧ (∀ i, i < 3 → hf (b + 7) i = h (c + 7) i) ∧ (∀ i, i < 36 → hf (b + 8) i = h (c + 8) i)
theorem XR.be {h hf : tkH} {b c : Nat} {f : Nat → Int32} (r : XR h c f) (v : Vd f) (e : BE h c hf b) : XR hf b f := by
  obtain ⟨e0, e1, e2, e3, e4, e5, e6, e7, e8⟩ := e
  have n := v.n.2
  refine ⟨e0.trans r.1, fun t ht => ?_, fun j hj => (e7 j hj).trans (r.2.2.1 j hj), fun j hj => (e8 j hj).trans (r.2.2.2 j hj)⟩
  obtain ⟨r1, r2, r3, r4, r5, r6⟩ := r.2.1 t ht
  refine ⟨(e1 t (by omega)).trans r1, (e2 t (by omega)).trans r2, (e3 t (by omega)).trans r3, (e4 t (by omega)).trans r4, (e5 t (by omega)).trans r5, fun i hi => ?_⟩
  have l := (v.l ht).2
  exact (e6 (10 * t + i) (by omega)).trans (r6 i hi)
theorem BE.of_eq {h hf : tkH} {b : Nat} (e : ∀ q, b ≤ q → q ≤ b + 8 → hf q = h q) : BE h b hf b := by
  refine ⟨?_, ?_, ?_, ?_, ?_, ?_, ?_, ?_, ?_⟩
  · rw [e b (by omega) (by omega)]
  all_goals
    intro i _
    first | rw [e (b + 1) (by omega) (by omega)] | rw [e (b + 2) (by omega) (by omega)] | rw [e (b + 3) (by omega) (by omega)] | rw [e (b + 4) (by omega) (by omega)] | rw [e (b + 5) (by omega) (by omega)] | rw [e (b + 6) (by omega) (by omega)] | rw [e (b + 7) (by omega) (by omega)] | rw [e (b + 8) (by omega) (by omega)]
theorem x_takeFrom {h : tkH} {b c : Nat} (hb : isB b) (hc : isB c) (hd : b + 8 < c ∨ c + 8 < b) : ∃ hf, (∀ q, q < b ∨ b + 8 < q → hf q = h q) ∧ BE h c hf b ∧ f_X0_takeFrom h b c = some hf := by
  obtain ⟨b1, b2, b3, b4, b5, b6, b7, b8⟩ := isB_f hb
  obtain ⟨c1, c2, c3, c4, c5, c6, c7, c8⟩ := isB_f hc
  obtain ⟨l1, l2, l3, l4, l5, l6, l7, l8⟩ := isB_l hb
  obtain ⟨m1, m2, m3, m4, m5, m6, m7, m8⟩ := isB_l hc
  unfold f_X0_takeFrom
  rw [b1, b2, b3, b4, b5, b6, b7, b8, c1, c2, c3, c4, c5, c6, c7, c8, nl10, nl3, show (100 : Int32) = nI 100 from rfl, show (36 : Int32) = nI 36 from rfl]
  rw [cp_0 m1 l1 (by decide), ob, cp_0 m2 l2 (by decide), ob, cp_0 m3 l3 (by decide), ob, cp_0 m4 l4 (by decide), ob, cp_0 m5 l5 (by decide), ob, cp_0 m6 l6 (by decide), ob, cp_0 m7 l7 (by decide), ob, cp_0 m8 l8 (by decide), ob]
  refine ⟨_, fun q e => ?_, ⟨?_, fun i hi => ?_, fun i hi => ?_, fun i hi => ?_, fun i hi => ?_, fun i hi => ?_, fun i hi => ?_, fun i hi => ?_, fun i hi => ?_⟩, rfl⟩
  · rw [cp_a (by omega), cp_a (by omega), cp_a (by omega), cp_a (by omega), cp_a (by omega), cp_a (by omega), cp_a (by omega), cp_a (by omega), up_a (by omega)]
  · rw [cp_a (by omega), cp_a (by omega), cp_a (by omega), cp_a (by omega), cp_a (by omega), cp_a (by omega), cp_a (by omega), cp_a (by omega), up_s]
  · rw [cp_a (by omega), cp_a (by omega), cp_a (by omega), cp_a (by omega), cp_a (by omega), cp_a (by omega), cp_a (by omega), cp_in (by omega) (by omega), up_a (by omega), Nat.sub_zero, Nat.zero_add]
  · rw [cp_a (by omega), cp_a (by omega), cp_a (by omega), cp_a (by omega), cp_a (by omega), cp_a (by omega), cp_in (by omega) (by omega), cp_a (by omega), up_a (by omega), Nat.sub_zero, Nat.zero_add]
  · rw [cp_a (by omega), cp_a (by omega), cp_a (by omega), cp_a (by omega), cp_a (by omega), cp_in (by omega) (by omega), cp_a (by omega), cp_a (by omega), up_a (by omega), Nat.sub_zero, Nat.zero_add]
  · rw [cp_a (by omega), cp_a (by omega), cp_a (by omega), cp_a (by omega), cp_in (by omega) (by omega), cp_a (by omega), cp_a (by omega), cp_a (by omega), up_a (by omega), Nat.sub_zero, Nat.zero_add]
  · rw [cp_a (by omega), cp_a (by omega), cp_a (by omega), cp_in (by omega) (by omega), cp_a (by omega), cp_a (by omega), cp_a (by omega), cp_a (by omega), up_a (by omega), Nat.sub_zero, Nat.zero_add]
  · rw [cp_a (by omega), cp_a (by omega), cp_in (by omega) (by omega), cp_a (by omega), cp_a (by omega), cp_a (by omega), cp_a (by omega), cp_a (by omega), up_a (by omega), Nat.sub_zero, Nat.zero_add]
  · rw [cp_a (by omega), cp_in (by omega) (by omega), cp_a (by omega), cp_a (by omega), cp_a (by omega), cp_a (by omega), cp_a (by omega), cp_a (by omega), up_a (by omega), Nat.sub_zero, Nat.zero_add]
  · rw [cp_in (by omega) (by omega), cp_a (by omega), cp_a (by omega), cp_a (by omega), cp_a (by omega), cp_a (by omega), cp_a (by omega), cp_a (by omega), up_a (by omega), Nat.sub_zero, Nat.zero_add]
/-- the j-th kept row of the reference -/
def ps (h : tkH) (j : Nat) : Nat → Int32 := fun i => h 219 (390 * j + i)
def sl (nx k j : Nat) : Nat := 12 + 9 * ((nx + 20 - k + j) % 20)
def Hs (h : tkH) : Prop := ∃ k nx, k ≤ 20 ∧ nx < 20 ∧ h 10 2 = nI k ∧ h 217 2 = nI k ∧ h 10 1 = nI nx ∧ ∀ j, j < k → Vd (ps h j) ∧ XR h (sl nx k j) (ps h j)
theorem x_keep {h : tkH} {k nx : Nat} (hk : k ≤ 20) (hn : nx < 20) (e2 : h 10 2 = nI k) (e1 : h 10 1 = nI nx) : ∃ hf, (∀ q, q ≠ 10 → (q < 12 + 9 * nx ∨ 12 + 9 * nx + 8 < q) → hf q = h q) ∧ BE h 1 hf (12 + 9 * nx) ∧ hf 10 1 = nI ((nx + 1) % 20) ∧ hf 10 2 = nI (min (k + 1) 20) ∧ f_X3_keep h 10 1 = some hf := by
  obtain ⟨g, g1, g2, g3⟩ := x_takeFrom (h := h) (b := 12 + 9 * nx) (c := 1) (Or.inr ⟨nx, hn, rfl⟩) (Or.inl rfl) (by omega)
  have g10 : g 10 = h 10 := g1 10 (by omega)
  unfold f_X3_keep f_X3_keep_J35
  rw [show fld 10 0 = 11 by simp only [FL], e1, RA3 hn, ob, g3, ob, g10, e1, nI_1, nl20]
  have E : ∀ x : Int32, (∀ q, q ≠ 10 → (q < 12 + 9 * nx ∨ 12 + 9 * nx + 8 < q) → (tkup (tkup g 10 1 x) 10 2 (mnI (tkup g 10 1 x 10 2 + 1) (nI 20))) q = h q) ∧ BE h 1 (tkup (tkup g 10 1 x) 10 2 (mnI (tkup g 10 1 x 10 2 + 1) (nI 20))) (12 + 9 * nx) ∧ (tkup (tkup g 10 1 x) 10 2 (mnI (tkup g 10 1 x 10 2 + 1) (nI 20))) 10 1 = x ∧ (tkup (tkup g 10 1 x) 10 2 (mnI (tkup g 10 1 x 10 2 + 1) (nI 20))) 10 2 = nI (min (k + 1) 20) := by
    intro x
    refine ⟨fun q h1 h2 => ?_, ?_, ?_, ?_⟩
    · rw [up_a h1, up_a h1, g1 q h2]
    · obtain ⟨z0, z1, z2, z3, z4, z5, z6, z7, z8⟩ := g2
      exact ⟨by rw [up_a (by omega), up_a (by omega)]; exact z0, fun i hi => by rw [up_a (by omega), up_a (by omega)]; exact z1 i hi, fun i hi => by rw [up_a (by omega), up_a (by omega)]; exact z2 i hi, fun i hi => by rw [up_a (by omega), up_a (by omega)]; exact z3 i hi, fun i hi => by rw [up_a (by omega), up_a (by omega)]; exact z4 i hi, fun i hi => by rw [up_a (by omega), up_a (by omega)]; exact z5 i hi, fun i hi => by rw [up_a (by omega), up_a (by omega)]; exact z6 i hi, fun i hi => by rw [up_a (by omega), up_a (by omega)]; exact z7 i hi, fun i hi => by rw [up_a (by omega), up_a (by omega)]; exact z8 i hi⟩
    · rw [up_i (by decide), up_s]
    · rw [up_s, up_i (by decide), g10, e2, nI_1, mnI_n (by omega) (by omega)]
  by_cases c : nx + 1 < 20
  · rw [if_neg (by rw [nI_leI (by omega) (by omega)]; omega)]
    obtain ⟨a1, a2, a3, a4⟩ := E (nI (nx + 1))
    exact ⟨_, a1, a2, by rw [a3, Nat.mod_eq_of_lt c], a4, rfl⟩
  · rw [if_pos (by rw [nI_leI (by omega) (by omega)]; omega)]
    obtain ⟨a1, a2, a3, a4⟩ := E 0
    exact ⟨_, a1, a2, by rw [a3, show (nx + 1) % 20 = 0 by omega]; rfl, a4, rfl⟩
theorem r219 {h : tkH} {k : Nat} (hk : k < 7800) : rdI h 219 (nI k) = some (h 219 k) := rdI_n (by simp only [LN]; exact hk) (by simp only [LN]; decide)
theorem w219 {h : tkH} {k : Nat} {x : Int32} (hk : k < 7800) : wrI h 219 (nI k) x = some (tkup h 219 k x) := wrI_n (by simp only [LN]; exact hk) (by simp only [LN]; decide)
theorem m_keepB {kx : tkH → Option tkH} {k : Nat} (hk : k < 20) : ∀ (m n i : Nat) (g : tkH), m + i = 390 → m < n → g 217 2 = nI k → (∃ hf, BC 219 g hf ∧ (∀ x, x < 390 → i ≤ x → hf 219 (390 * k + x) = g 218 x) ∧ (∀ y, (y < 390 * k + i ∨ 390 * k + 390 ≤ y) → hf 219 y = g 219 y) ∧ f_X9_keep_L52 217 kx n g (nI i) = kx hf) := by
  intro m
  induction m with
  | zero =>
    intro n i g hi hn e2
    obtain ⟨n', rfl⟩ : ∃ n', n = n' + 1 := ⟨n - 1, by omega⟩
    refine ⟨g, BC.rf, fun x h1 h2 => by omega, fun _ _ => rfl, ?_⟩
    rw [f_X9_keep_L52_s, if_pos (by rw [nl390, nI_leI (by omega) (by omega)]; omega)]
  | succ m ih =>
    intro n i g hi hn e2
    obtain ⟨n', rfl⟩ : ∃ n', n = n' + 1 := ⟨n - 1, by omega⟩
    rw [f_X9_keep_L52_s, if_neg (by rw [nl390, nI_leI (by omega) (by omega)]; omega), show fld 217 0 = 218 by simp only [FL], show fld 217 1 = 219 by simp only [FL], r218 (by omega), ob, e2, nl390, pk_mul, nI_add, w219 (by omega), ob, nI_1]
    obtain ⟨hf, h1, h2, h3, h4⟩ := ih n' (i + 1) (tkup g 219 (k * 390 + i) (g 218 i)) (by omega) (by omega) (by rw [up_a (by decide)]; exact e2)
    refine ⟨hf, BC.tr BC.up h1, fun x g1 g2 => ?_, fun y hy => ?_, h4⟩
    · by_cases e : x = i
      · subst e
        rw [h3 _ (by omega), show 390 * k + x = k * 390 + x by omega, up_s]
      · rw [h2 x g1 (by omega), up_a (by decide)]
    · rw [h3 y (by omega), up_i (by omega)]
theorem m_keepA {kx : tkH → Option tkH} : ∀ (m n i : Nat) (g : tkH), m + i = 7410 → m < n → (∃ hf, BC 219 g hf ∧ (∀ x, x < 7410 → i ≤ x → hf 219 x = g 219 (x + 390)) ∧ (∀ y, (y < i ∨ 7410 ≤ y) → hf 219 y = g 219 y) ∧ f_X9_keep_L11 217 kx n g (nI i) = kx hf) := by
  intro m
  induction m with
  | zero =>
    intro n i g hi hn
    obtain ⟨n', rfl⟩ : ∃ n', n = n' + 1 := ⟨n - 1, by omega⟩
    refine ⟨g, BC.rf, fun x h1 h2 => by omega, fun _ _ => rfl, ?_⟩
    rw [f_X9_keep_L11_s, if_pos (by rw [nl7410, nI_leI (by omega) (by omega)]; omega)]
  | succ m ih =>
    intro n i g hi hn
    obtain ⟨n', rfl⟩ : ∃ n', n = n' + 1 := ⟨n - 1, by omega⟩
    rw [f_X9_keep_L11_s, if_neg (by rw [nl7410, nI_leI (by omega) (by omega)]; omega), show fld 217 1 = 219 by simp only [FL], nl390, nI_add, r219 (by omega), ob, w219 (by omega), ob, nI_1]
    obtain ⟨hf, h1, h2, h3, h4⟩ := ih n' (i + 1) (tkup g 219 i (g 219 (i + 390))) (by omega) (by omega)
    refine ⟨hf, BC.tr BC.up h1, fun x g1 g2 => ?_, fun y hy => ?_, h4⟩
    · by_cases e : x = i
      · subst e
        rw [h3 _ (by omega), up_s]
      · rw [h2 x g1 (by omega), up_i (by omega)]
    · rw [h3 y (by omega), up_i (by omega)]
theorem m_keep {h : tkH} {k : Nat} (hk : k ≤ 20) (e2 : h 217 2 = nI k) : ∃ hf, (∀ q, q ≠ 217 → q ≠ 219 → hf q = h q) ∧ (∀ j, j ≠ 2 → hf 217 j = h 217 j) ∧ hf 217 2 = nI (min (k + 1) 20) ∧ (∀ i, i < 390 → hf 219 (390 * (min k 19) + i) = h 218 i) ∧ (∀ j i, j < min k 19 → i < 390 → hf 219 (390 * j + i) = h 219 (390 * (j + (k - min k 19)) + i)) ∧ f_X9_keep h 217 = some hf := by
  have B : ∀ (g : tkH) (k : Nat), k < 20 → g 217 2 = nI k → ∃ hf, (∀ q, q ≠ 217 → q ≠ 219 → hf q = g q) ∧ (∀ j, j ≠ 2 → hf 217 j = g 217 j) ∧ hf 217 2 = nI (k + 1) ∧ (∀ i, i < 390 → hf 219 (390 * k + i) = g 218 i) ∧ (∀ y, y < 390 * k → hf 219 y = g 219 y) ∧ f_X9_keep_J50 217 g = some hf := by
    intro g k hk e
    obtain ⟨h1, a1, a2, a3, a4⟩ := m_keepB (kx := fun gz86 => some (tkup gz86 217 2 ((gz86 217 2) + 1))) hk 390 FU 0 g (by omega) (FU_gt (by omega)) e
    refine ⟨tkup h1 217 2 (h1 217 2 + 1), fun q g1 g2 => by rw [up_a g1, a1 q g2], fun j hj => by rw [up_i hj, a1 217 (by decide)], by rw [up_s, a1 217 (by decide), e, nI_1], fun i hi => by rw [up_a (by decide), a2 i hi (by omega)], fun y hy => by rw [up_a (by decide), a3 y (by omega)], ?_⟩
    exact a4
  unfold f_X9_keep
  by_cases c : k = 20
  · subst c
    rw [e2, nl20, if_pos rfl]
    obtain ⟨h1, a1, a2, a3, a4⟩ := m_keepA (kx := fun gz40 => f_X9_keep_J50 217 (tkup gz40 217 2 ((gz40 217 2) - 1))) 7410 FU 0 h (by omega) (FU_gt (by omega))
    obtain ⟨h2, b1, b2, b3, b4, b5, b6⟩ := B (tkup h1 217 2 (h1 217 2 - 1)) 19 (by decide) (by rw [up_s, a1 217 (by decide), e2]; exact nI_pred 19)
    refine ⟨h2, fun q g1 g2 => by rw [b1 q g1 g2, up_a g1, a1 q g2], fun j hj => by rw [b2 j hj, up_i hj, a1 217 (by decide)], b3, fun i hi => ?_, fun j i hj hi => ?_, a4.trans b6⟩
    · rw [show min 20 19 = 19 from rfl, b4 i hi, up_a (by decide), a1 218 (by decide)]
    · rw [show min 20 19 = 19 from rfl] at hj ⊢
      rw [b5 _ (by omega), up_a (by decide), a2 _ (by omega) (by omega), show 390 * j + i + 390 = 390 * (j + (20 - 19)) + i by omega]
  · rw [e2, nl20, if_neg (fun q => c ((nI_eq (by omega) (by omega)).mp q))]
    obtain ⟨h2, b1, b2, b3, b4, b5, b6⟩ := B h k (by omega) e2
    rw [show min k 19 = k by omega, show min (k + 1) 20 = k + 1 by omega]
    exact ⟨h2, b1, b2, b3, b4, fun j i hj hi => by rw [b5 _ (by omega), show j + (k - k) = j by omega], b6⟩
