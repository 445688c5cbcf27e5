/-! borrowed: the reference's runs, both searches -/
theorem m_isSame {g : tkH} {f : Nat → Int32} (v : Vd f) (e : g 218 = f) {a b i j k x : Nat} (hk : k < 24) (hC : MC g k) (ha : a < cN f) (hb : b < cN f) (hx : i + x < cL f a) (hy : j + x < cL f b) : f_X9_isSame g 217 (nI a) (nI (i + x)) (nI b) (nI (j + x)) = some (if okb f a b i j k x = true then 1 else 0, g) := by
  have n2 := v.n.2
  have la := (v.l ha).2
  have lb := (v.l hb).2
  have a0 := v.s0 ha hx
  have a1 := v.s1 ha hx
  have a2 := v.s2 ha hx
  have b0 := v.s0 hb hy
  have b1 := v.s1 hb hy
  have b2 := v.s2 hb hy
  have p1 := (pm_ok hk (show cS f a (i + x) 1 < 4 by omega)).1
  have p2 := (pm_ok hk (show cS f a (i + x) 2 < 4 by omega)).1
  have A0 : f_X9_stepOf g 217 (nI a) (nI (i + x)) 0 = some (nI (cS f a (i + x) 0), g) := (m_stepOf (w := 0) (by omega) (by omega) (by decide)).trans (by rw [e, Nat.add_zero, a0.1])
  have A1 : f_X9_stepOf g 217 (nI a) (nI (i + x)) 1 = some (nI (cS f a (i + x) 1), g) := (m_stepOf (w := 1) (by omega) (by omega) (by decide)).trans (by rw [e, a1.1])
  have A2 : f_X9_stepOf g 217 (nI a) (nI (i + x)) 2 = some (nI (cS f a (i + x) 2), g) := (m_stepOf (w := 2) (by omega) (by omega) (by decide)).trans (by rw [e, a2.1])
  have C0 : f_X9_stepOf g 217 (nI b) (nI (j + x)) 0 = some (nI (cS f b (j + x) 0), g) := (m_stepOf (w := 0) (by omega) (by omega) (by decide)).trans (by rw [e, Nat.add_zero, b0.1])
  have C1 : f_X9_stepOf g 217 (nI b) (nI (j + x)) 1 = some (nI (cS f b (j + x) 1), g) := (m_stepOf (w := 1) (by omega) (by omega) (by decide)).trans (by rw [e, b1.1])
  have C2 : f_X9_stepOf g 217 (nI b) (nI (j + x)) 2 = some (nI (cS f b (j + x) 2), g) := (m_stepOf (w := 2) (by omega) (by omega) (by decide)).trans (by rw [e, b2.1])
  unfold f_X9_isSame
  rw [A0, ob]
  simp only []
  rw [C0, ob]
  by_cases c0 : cS f a (i + x) 0 = cS f b (j + x) 0
  · rw [if_pos (by rw [c0])]
    simp only []
    rw [A1, ob]
    simp only []
    rw [show fld 217 7 = 223 by simp only [FL], r223 hC (by omega), ob, C1, ob]
    by_cases c1 : pm k (cS f a (i + x) 1) = cS f b (j + x) 1
    · rw [if_pos (by rw [c1])]
      simp only []
      rw [A2, ob]
      simp only []
      rw [r223 hC (by omega), ob, C2, ob]
      by_cases c2 : pm k (cS f a (i + x) 2) = cS f b (j + x) 2
      · rw [if_pos (by rw [c2]), if_pos (okb_d.mpr ⟨c0, c1, c2⟩)]
      · rw [if_neg (nIne (by omega) (by omega) c2), if_neg (fun q => c2 (okb_d.mp q).2.2)]
    · rw [if_neg (nIne (by omega) (by omega) c1), if_neg (fun q => c1 (okb_d.mp q).2.1)]
  · rw [if_neg (nIne (by omega) (by omega) c0), if_neg (fun q => c0 (okb_d.mp q).1)]
theorem m_sameL {g : tkH} {f : Nat → Int32} (v : Vd f) (e : g 218 = f) {a b i j k : Nat} (hk : k < 24) (hC : MC g k) (ha : a < cN f) (hb : b < cN f) (hi : i < cL f a) (hj : j < cL f b) : ∀ (m n y : Nat), m + y = lgs_ f a b i j → m < n → f_X9_same_L3 217 (nI a) (nI i) (nI b) (nI j) n g (nI y) = some (nI (pl (okb f a b i j k) m y), g) := by
  have n2 := v.n.2
  have la := v.l ha
  have lb := v.l hb
  have lg1 : lgs_ f a b i j ≤ cL f a - i := Nat.min_le_left _ _
  have lg2 : lgs_ f a b i j ≤ cL f b - j := Nat.min_le_right _ _
  have lg3 : lgs_ f a b i j = cL f a - i ∨ lgs_ f a b i j = cL f b - j := by unfold lgs_; omega
  intro m
  induction m with
  | zero =>
    intro n y h1 hn
    obtain ⟨n', rfl⟩ : ∃ n', n = n' + 1 := ⟨n - 1, by omega⟩
    rw [f_X9_same_L3_s, f217.1, nl70, nI_add, nI_add, nI_add, nI_add, r218 (by omega), ob, e, la.1]
    by_cases c : cL f a ≤ i + y
    · rw [if_pos (by rw [nI_leI (by omega) (by omega)]; omega)]
      rfl
    · rw [if_neg (by rw [nI_leI (by omega) (by omega)]; omega), r218 (by omega), ob, e, lb.1, if_pos (by rw [nI_leI (by omega) (by omega)]; omega)]
      rfl
  | succ m ih =>
    intro n y h1 hn
    obtain ⟨n', rfl⟩ : ∃ n', n = n' + 1 := ⟨n - 1, by omega⟩
    rw [f_X9_same_L3_s, f217.1, nl70, nI_add, nI_add, nI_add, nI_add, r218 (by omega), ob, e, la.1, if_neg (by rw [nI_leI (by omega) (by omega)]; omega), r218 (by omega), ob, e, lb.1, if_neg (by rw [nI_leI (by omega) (by omega)]; omega), m_isSame v e hk hC ha hb (by omega) (by omega), ob]
    have hp : pl (okb f a b i j k) (m + 1) y = if okb f a b i j k y = true then pl (okb f a b i j k) m (y + 1) else y := rfl
    rw [hp]
    by_cases c : okb f a b i j k y = true
    · rw [if_pos c, if_pos c]
      simp only [i1f, if_false]
      rw [nI_1]
      exact ih n' (y + 1) (by omega) (by omega)
    · rw [if_neg c, if_neg c]
      simp only [eq_self, if_true]
/-- what a search leaves: how long, and from where -/
abbrev bS : Type := Nat × Nat × Nat
def bK (Z i j : Nat) (s : bS) : bS := if s.1 < Z then (Z, i, j) else s
def T5 (g hf : tkH) : Prop := (∀ q, q ≠ 217 → q ≠ 223 → hf q = g q) ∧ ∀ j, j < 25 → hf 217 j = g 217 j
def bM (g : tkH) (s : bS) : Prop := g 217 25 = nI s.1 ∧ (0 < s.1 → g 217 26 = nI s.2.1 ∧ g 217 27 = nI s.2.2)
theorem m_pk {f : Nat → Int32} (v : Vd f) {a b i j : Nat} (ha : a < cN f) (hb : b < cN f) (hi : i < cL f a) (hj : j < cL f b) {kx : tkH → Option tkH} : ∀ (m n k : Nat) (g : tkH) (s : bS), m + k = 24 → m < n → g 218 = f → bM g s → s.1 ≤ 10 → ∃ hf, T5 g hf ∧ bM hf (if s.1 < mxk (pz f a b i j) m k s.1 then (mxk (pz f a b i j) m k s.1, i, j) else s) ∧ f_X9_findPiece_L40 217 (nI a) (nI i) (nI b) (nI j) kx n g (nI k) = kx hf := by
  have la := (v.l ha).2
  have lg1 : lgs_ f a b i j ≤ cL f a - i := Nat.min_le_left _ _
  intro m
  induction m with
  | zero =>
    intro n k g s h1 hn e hB s10
    obtain ⟨n', rfl⟩ : ∃ n', n = n' + 1 := ⟨n - 1, by omega⟩
    refine ⟨g, ⟨fun _ _ _ => rfl, fun _ _ => rfl⟩, ?_, ?_⟩
    · rw [if_neg (show ¬ s.1 < mxk (pz f a b i j) 0 k s.1 from Nat.lt_irrefl _)]
      exact hB
    · rw [f_X9_findPiece_L40_s, if_pos (by rw [nl24, nI_leI (by omega) (by omega)]; omega)]
  | succ m ih =>
    intro n k g s h1 hn e hB s10
    obtain ⟨n', rfl⟩ : ∃ n', n = n' + 1 := ⟨n - 1, by omega⟩
    have hk : k < 24 := by omega
    have e1 : crs g k 218 = f := (crs_a (by decide)).trans e
    have sm : f_X9_same (crs g k) 217 (nI a) (nI i) (nI b) (nI j) = some (nI (pz f a b i j k), crs g k) := m_sameL v e1 hk (MC_crs hk) ha hb hi hj (lgs_ f a b i j) FU 0 (by omega) (FU_gt (by omega))
    have pz10 : pz f a b i j k ≤ 10 := by
      have p := (pl_ok (q := okb f a b i j k) (lgs_ f a b i j) 0).2.1
      show pl (okb f a b i j k) (lgs_ f a b i j) 0 ≤ 10
      omega
    have e217 : crs g k 217 = g 217 := crs_a (by decide)
    have hm : mxk (pz f a b i j) (m + 1) k s.1 = mxk (pz f a b i j) m (k + 1) (if s.1 < pz f a b i j k then pz f a b i j k else s.1) := rfl
    rw [f_X9_findPiece_L40_s, if_neg (show ¬ (24 : Int32) ≤ nI k by rw [nl24, nI_leI (by omega) (by omega)]; omega), m_carry hk, ob, sm, ob]
    simp only []
    rw [e217, hB.1, nI_1, hm]
    by_cases c : s.1 < pz f a b i j k
    · rw [if_neg (show ¬ nI (pz f a b i j k) ≤ nI s.1 by rw [nI_leI (by omega) (by omega)]; omega), if_pos c]
      obtain ⟨hf, b1, b2, b3⟩ := ih n' (k + 1) (tkup (tkup (tkup (crs g k) 217 25 (nI (pz f a b i j k))) 217 26 (nI i)) 217 27 (nI j)) (pz f a b i j k, i, j) (by omega) (by omega) (by rw [up_a (by decide), up_a (by decide), up_a (by decide)]; exact e1) ⟨by rw [up_i (by decide), up_i (by decide), up_s], fun _ => ⟨by rw [up_i (by decide), up_s], by rw [up_s]⟩⟩ pz10
      refine ⟨hf, ⟨fun q h2 h3 => by rw [b1.1 q h2 h3, up_a h2, up_a h2, up_a h2, crs_a h3], fun x hx => by rw [b1.2 x hx, up_i (by omega), up_i (by omega), up_i (by omega), e217]⟩, ?_, b3⟩
      have l := (mxk_lb (z := pz f a b i j) m (k + 1) (pz f a b i j k)).1
      rw [if_pos (by omega)]
      by_cases c2 : pz f a b i j k < mxk (pz f a b i j) m (k + 1) (pz f a b i j k)
      · rw [if_pos c2] at b2
        exact b2
      · rw [if_neg c2] at b2
        rw [show mxk (pz f a b i j) m (k + 1) (pz f a b i j k) = pz f a b i j k by omega]
        exact b2
    · rw [if_pos (show nI (pz f a b i j k) ≤ nI s.1 by rw [nI_leI (by omega) (by omega)]; omega), if_neg c]
      obtain ⟨hf, b1, b2, b3⟩ := ih n' (k + 1) (crs g k) s (by omega) (by omega) e1 (by unfold bM; rw [e217]; exact hB) s10
      exact ⟨hf, ⟨fun q h2 h3 => by rw [b1.1 q h2 h3, crs_a h3], fun x hx => by rw [b1.2 x hx, e217]⟩, b2, b3⟩
def bJ (f : Nat → Int32) (a b i : Nat) : Nat → Nat → bS → bS
  | 0, _, s => s
  | m + 1, j, s => bJ f a b i m (j + 1) (bK (Zb f a b i j) i j s)
def bI_ (f : Nat → Int32) (a b : Nat) : Nat → Nat → bS → bS
  | 0, _, s => s
  | m + 1, i, s => bI_ f a b m (i + 1) (bJ f a b i (cL f b) 0 s)
theorem bK_le {Z i j : Nat} {s : bS} (h : Z ≤ 10) (hs : s.1 ≤ 10) : (bK Z i j s).1 ≤ 10 := by
  unfold bK
  split
  · exact h
  · exact hs
theorem bJ_le {f : Nat → Int32} (v : Vd f) {a b i : Nat} (ha : a < cN f) : ∀ m j s, s.1 ≤ 10 → (bJ f a b i m j s).1 ≤ 10
  | 0, _, _, h => h
  | m + 1, j, s, h => bJ_le v ha m (j + 1) _ (bK_le (Zb_le v ha) h)
theorem m_pj {f : Nat → Int32} (v : Vd f) {a b i : Nat} (ha : a < cN f) (hb : b < cN f) (hi : i < cL f a) {kx : tkH → Option tkH} : ∀ (m n j : Nat) (g : tkH) (s : bS), m + j = cL f b → m < n → g 218 = f → bM g s → s.1 ≤ 10 → ∃ hf, T5 g hf ∧ bM hf (bJ f a b i m j s) ∧ f_X9_findPiece_L23 217 (nI b) (nI a) (nI i) kx n g (nI j) = kx hf := by
  have n2 := v.n.2
  have lb := v.l hb
  intro m
  induction m with
  | zero =>
    intro n j g s h1 hn e hB s10
    obtain ⟨n', rfl⟩ : ∃ n', n = n' + 1 := ⟨n - 1, by omega⟩
    refine ⟨g, ⟨fun _ _ _ => rfl, fun _ _ => rfl⟩, hB, ?_⟩
    rw [f_X9_findPiece_L23_s, f217.1, nl70, nI_add, r218 (by omega), ob, e, lb.1, if_pos (by rw [nI_leI (by omega) (by omega)]; omega)]
  | succ m ih =>
    intro n j g s h1 hn e hB s10
    obtain ⟨n', rfl⟩ : ∃ n', n = n' + 1 := ⟨n - 1, by omega⟩
    rw [f_X9_findPiece_L23_s, f217.1, nl70, nI_add, r218 (by omega), ob, e, lb.1, if_neg (by rw [nI_leI (by omega) (by omega)]; omega), nI_1]
    obtain ⟨g1, b1, b2, b3⟩ := m_pk v ha hb hi (show j < cL f b by omega) (kx := fun gz96 => (f_X9_findPiece_L23 217 (nI b) (nI a) (nI i) kx n') gz96 (nI (j + 1))) 24 FU 0 g s (by omega) (FU_gt (by omega)) e hB s10
    have es : (if s.1 < mxk (pz f a b i j) 24 0 s.1 then (mxk (pz f a b i j) 24 0 s.1, i, j) else s) = bK (Zb f a b i j) i j s := by
      rw [Zb_max]
      unfold bK
      by_cases c : s.1 < Zb f a b i j
      · rw [if_pos c, if_pos c]
      · rw [if_neg c, if_neg (Nat.lt_irrefl _), if_neg c]
    rw [es] at b2
    obtain ⟨hf, c1, c2, c3⟩ := ih n' (j + 1) g1 (bK (Zb f a b i j) i j s) (by omega) (by omega) ((b1.1 218 (by decide) (by decide)).trans e) b2 (bK_le (Zb_le v ha) s10)
    exact ⟨hf, ⟨fun q h2 h3 => (c1.1 q h2 h3).trans (b1.1 q h2 h3), fun x hx => (c1.2 x hx).trans (b1.2 x hx)⟩, c2, b3.trans c3⟩
theorem m_pi {f : Nat → Int32} (v : Vd f) {a b : Nat} (ha : a < cN f) (hb : b < cN f) : ∀ (m n i : Nat) (g : tkH) (s : bS), m + i = cL f a → m < n → g 218 = f → bM g s → s.1 ≤ 10 → ∃ hf, T5 g hf ∧ bM hf (bI_ f a b m i s) ∧ f_X9_findPiece_L7 217 (nI a) (nI b) n g (nI i) = some hf := by
  have n2 := v.n.2
  have la := v.l ha
  intro m
  induction m with
  | zero =>
    intro n i g s h1 hn e hB s10
    obtain ⟨n', rfl⟩ : ∃ n', n = n' + 1 := ⟨n - 1, by omega⟩
    refine ⟨g, ⟨fun _ _ _ => rfl, fun _ _ => rfl⟩, hB, ?_⟩
    rw [f_X9_findPiece_L7_s, f217.1, nl70, nI_add, r218 (by omega), ob, e, la.1, if_pos (by rw [nI_leI (by omega) (by omega)]; omega)]
  | succ m ih =>
    intro n i g s h1 hn e hB s10
    obtain ⟨n', rfl⟩ : ∃ n', n = n' + 1 := ⟨n - 1, by omega⟩
    rw [f_X9_findPiece_L7_s, f217.1, nl70, nI_add, r218 (by omega), ob, e, la.1, if_neg (by rw [nI_leI (by omega) (by omega)]; omega), nI_1]
    obtain ⟨g1, b1, b2, b3⟩ := m_pj v ha hb (show i < cL f a by omega) (kx := fun gz102 => (f_X9_findPiece_L7 217 (nI a) (nI b) n') gz102 (nI (i + 1))) (cL f b) FU 0 g s (by omega) (FU_gt (by have := (v.l hb).2; omega)) e hB s10
    obtain ⟨hf, c1, c2, c3⟩ := ih n' (i + 1) g1 (bJ f a b i (cL f b) 0 s) (by omega) (by omega) ((b1.1 218 (by decide) (by decide)).trans e) b2 (bJ_le v ha _ _ _ s10)
    exact ⟨hf, ⟨fun q h2 h3 => (c1.1 q h2 h3).trans (b1.1 q h2 h3), fun x hx => (c1.2 x hx).trans (b1.2 x hx)⟩, c2, b3.trans c3⟩
/-! the class's search -/
def bX (g : tkH) (s : bS) : Prop := g 205 2 = nI s.1 ∧ (0 < s.1 → g 205 3 = nI s.2.1 ∧ g 205 4 = nI s.2.2)
def T6 (g hf : tkH) : Prop := ∀ q, q ≠ 205 → q ≠ 206 → q ≠ 207 → hf q = g q
theorem T6.xf {g hf : tkH} (p : T6 g hf) : XF g hf := fun q e => p q (by omega) (by omega) (by omega)
theorem T6.tr {g1 g2 g3 : tkH} (p : T6 g1 g2) (q : T6 g2 g3) : T6 g1 g3 := fun x a b c => (q x a b c).trans (p x a b c)
theorem x_pj {f : Nat → Int32} (v : Vd f) {a b i : Nat} (ha : a < cN f) (hb : b < cN f) (hi : i < cL f a) {kx : tkH → Option tkH} : ∀ (m n j : Nat) (g : tkH) (s : bS), m + j = cL f b → m < n → XR g 1 f → bX g s → s.1 ≤ 10 → ∃ hf, T6 g hf ∧ bX hf (bJ f a b i m j s) ∧ f_X1_find_L22 1 (nI b) (nI a) 205 (nI i) kx n g (nI j) = kx hf := by
  have n2 := v.n.2
  have la := v.l ha
  have lb := v.l hb
  have l6 : ln 6 = 10 := by simp only [LN]
  intro m
  induction m with
  | zero =>
    intro n j g s h1 hn r hB s10
    obtain ⟨n', rfl⟩ : ∃ n', n = n' + 1 := ⟨n - 1, by omega⟩
    have eb : g 6 b = nI (cL f b) := by rw [← lb.1]; exact (r.2.1 b hb).2.2.2.2.1
    refine ⟨g, fun _ _ _ _ => rfl, hB, ?_⟩
    rw [f_X1_find_L22_s, show fld 1 5 = 6 by simp only [FL], rdI_n (by omega) (by omega), ob, eb, if_pos (by rw [nI_leI (by omega) (by omega)]; omega)]
  | succ m ih =>
    intro n j g s h1 hn r hB s10
    obtain ⟨n', rfl⟩ : ∃ n', n = n' + 1 := ⟨n - 1, by omega⟩
    have eb : g 6 b = nI (cL f b) := by rw [← lb.1]; exact (r.2.1 b hb).2.2.2.2.1
    have ea : g 6 a = nI (cL f a) := by rw [← la.1]; exact (r.2.1 a ha).2.2.2.2.1
    obtain ⟨g1, b1, b2⟩ := x_sameFrom r v (a := a) (b := b) (i := i) (j := j) ha hb
    have z10 := Zb_le v (b := b) (i := i) (j := j) ha
    rw [f_X1_find_L22_s, show fld 1 5 = 6 by simp only [FL], show fld 1 6 = 7 by simp only [FL], rdI_n (by omega) (by omega), ob, eb, if_neg (by rw [nI_leI (by omega) (by omega)]; omega), rdI_n (by omega) (by omega), ob, ea, ob, nI_sub (by omega), nI_sub (by omega), mnI_n (by omega) (by omega), nl10, pk_mul, pk_mul, nI_add, nI_add, show a * 10 + i = 10 * a + i by omega, show b * 10 + j = 10 * b + j by omega, nI_1]
    have b2' : f_X1_sameFrom g 205 7 (nI (10 * a + i)) (nI (10 * b + j)) (nI (min (cL f a - i) (cL f b - j))) = _ := b2
    rw [b2', ob]
    simp only []
    have q1 : g1 205 = g 205 := b1 205 (by decide) (by decide)
    rw [q1, hB.1]
    have r1 : XR g1 1 f := r.xf (fun q e => b1 q (by omega) (by omega))
    have hs : bJ f a b i (m + 1) j s = bJ f a b i m (j + 1) (bK (Zb f a b i j) i j s) := rfl
    rw [hs]
    by_cases c : s.1 < Zb f a b i j
    · rw [if_neg (by rw [nI_leI (by omega) (by omega)]; omega)]
      have ek : bK (Zb f a b i j) i j s = (Zb f a b i j, i, j) := by unfold bK; rw [if_pos c]
      rw [ek]
      obtain ⟨hf, c1, c2, c3⟩ := ih n' (j + 1) (tkup (tkup (tkup g1 205 2 (nI (Zb f a b i j))) 205 3 (nI i)) 205 4 (nI j)) (Zb f a b i j, i, j) (by omega) (by omega) (r1.xf (((XF.up (by omega)).tr (XF.up (by omega))).tr (XF.up (by omega)))) ⟨by rw [up_i (by decide), up_i (by decide), up_s], fun _ => ⟨by rw [up_i (by decide), up_s], by rw [up_s]⟩⟩ z10
      exact ⟨hf, fun q h2 h3 h4 => by rw [c1 q h2 h3 h4, up_a h2, up_a h2, up_a h2, b1 q h3 h4], c2, c3⟩
    · rw [if_pos (by rw [nI_leI (by omega) (by omega)]; omega)]
      have ek : bK (Zb f a b i j) i j s = s := by unfold bK; rw [if_neg c]
      rw [ek]
      obtain ⟨hf, c1, c2, c3⟩ := ih n' (j + 1) g1 s (by omega) (by omega) r1 (by unfold bX; rw [q1]; exact hB) s10
      exact ⟨hf, fun q h2 h3 h4 => by rw [c1 q h2 h3 h4, b1 q h3 h4], c2, c3⟩
theorem x_pi {f : Nat → Int32} (v : Vd f) {a b : Nat} (ha : a < cN f) (hb : b < cN f) : ∀ (m n i : Nat) (g : tkH) (s : bS), m + i = cL f a → m < n → XR g 1 f → bX g s → s.1 ≤ 10 → ∃ hf, T6 g hf ∧ bX hf (bI_ f a b m i s) ∧ f_X1_find_L8 1 (nI a) (nI b) 205 n g (nI i) = some hf := by
  have n2 := v.n.2
  have la := v.l ha
  have l6 : ln 6 = 10 := by simp only [LN]
  intro m
  induction m with
  | zero =>
    intro n i g s h1 hn r hB s10
    obtain ⟨n', rfl⟩ : ∃ n', n = n' + 1 := ⟨n - 1, by omega⟩
    have ea : g 6 a = nI (cL f a) := by rw [← la.1]; exact (r.2.1 a ha).2.2.2.2.1
    refine ⟨g, fun _ _ _ _ => rfl, hB, ?_⟩
    rw [f_X1_find_L8_s, show fld 1 5 = 6 by simp only [FL], rdI_n (by omega) (by omega), ob, ea, if_pos (by rw [nI_leI (by omega) (by omega)]; omega)]
  | succ m ih =>
    intro n i g s h1 hn r hB s10
    obtain ⟨n', rfl⟩ : ∃ n', n = n' + 1 := ⟨n - 1, by omega⟩
    have ea : g 6 a = nI (cL f a) := by rw [← la.1]; exact (r.2.1 a ha).2.2.2.2.1
    rw [f_X1_find_L8_s, show fld 1 5 = 6 by simp only [FL], rdI_n (by omega) (by omega), ob, ea, if_neg (by rw [nI_leI (by omega) (by omega)]; omega), nI_1]
    obtain ⟨g1, b1, b2, b3⟩ := x_pj v ha hb (show i < cL f a by omega) (kx := fun gz115 => (f_X1_find_L8 1 (nI a) (nI b) 205 n') gz115 (nI (i + 1))) (cL f b) FU 0 g s (by omega) (FU_gt (by have := (v.l hb).2; omega)) r hB s10
    obtain ⟨hf, c1, c2, c3⟩ := ih n' (i + 1) g1 (bJ f a b i (cL f b) 0 s) (by omega) (by omega) (r.xf b1.xf) b2 (bJ_le v ha _ _ _ s10)
    exact ⟨hf, b1.tr c1, c2, b3.trans c3⟩
theorem x_find {g : tkH} {f : Nat → Int32} (r : XR g 1 f) (v : Vd f) {a b : Nat} (ha : a < cN f) (hb : b < cN f) : ∃ hf, T6 g hf ∧ bX hf (bI_ f a b (cL f a) 0 (0, 0, 0)) ∧ f_X1_find g 205 1 (nI a) (nI b) = some hf := by
  obtain ⟨hf, c1, c2, c3⟩ := x_pi v ha hb (cL f a) FU 0 (tkup g 205 2 0) (0, 0, 0) (by omega) (FU_gt (by have := (v.l ha).2; omega)) (r.xf (XF.up (by omega))) ⟨up_s, fun h => absurd h (Nat.lt_irrefl 0)⟩ (Nat.zero_le _)
  exact ⟨hf, fun q h1 h2 h3 => by rw [c1 q h1 h2 h3, up_a h1], c2, c3⟩
theorem m_find {g : tkH} {f : Nat → Int32} (v : Vd f) (e : g 218 = f) {a b : Nat} (ha : a < cN f) (hb : b < cN f) : ∃ hf, MF g hf ∧ bM hf (bI_ f a b (cL f a) 0 (0, 0, 0)) ∧ f_X9_findPiece g 217 (nI a) (nI b) = some hf := by
  obtain ⟨hf, c1, c2, c3⟩ := m_pi v ha hb (cL f a) FU 0 (tkup g 217 25 0) (0, 0, 0) (by omega) (FU_gt (by have := (v.l ha).2; omega)) (by rw [up_a (by decide)]; exact e) ⟨up_s, fun h => absurd h (Nat.lt_irrefl 0)⟩ (Nat.zero_le _)
  exact ⟨hf, ⟨fun q hq => by rw [c1.1 q (by omega) (by omega), up_a (by omega)], by rw [c1.2 2 (by decide), up_i (by decide)], by rw [c1.2 3 (by decide), up_i (by decide)]⟩, c2, c3⟩
theorem bI_le {f : Nat → Int32} (v : Vd f) {a b : Nat} (ha : a < cN f) : ∀ m i s, s.1 ≤ 10 → (bI_ f a b m i s).1 ≤ 10
  | 0, _, _, h => h
  | m + 1, i, s, h => bI_le v ha m (i + 1) _ (bJ_le v ha _ _ _ h)
theorem op_borrowed {h : tkH} (I : Inv h) (a b c : Int32) : OP (f_X8_borrowed h 0 a b c) (fun g => f_X9_borrowed g 217 a b c) := by
  have v := I.1
  have n2 := v.n.2
  by_cases ha : ∃ t, t < cN (h 218) ∧ a = nI t
  · obtain ⟨p, hp, rfl⟩ := ha
    by_cases hb : ∃ t, t < cN (h 218) ∧ b = nI t
    · obtain ⟨q, hq, rfl⟩ := hb
      by_cases hc : ∃ t, t < 3 ∧ c = nI t
      · obtain ⟨t, ht, rfl⟩ := hc
        obtain ⟨h1, a1, a2, a3⟩ := x_find I.2.1 v hp hq
        have s10 := bI_le (b := q) v hp (cL (h 218) p) 0 (0, 0, 0) (Nat.zero_le _)
        have c1 : Ca h1 (h 218) := I.2.2.2.2.1.keep (a1 201 (by decide) (by decide) (by decide))
        have hX0 : f_X8_borrowed h 0 (nI p) (nI q) (nI t) = if nI t = 0 then (some (h1 205 2, h1)) else (if (h1 205 2) = 0 then ((f_X8_finding h1 0 (-100006)).bind fun x75 => some (x75.1, x75.2)) else (if nI t = 1 then (some (h1 205 3, h1)) else (some (h1 205 4, h1)))) := by
          unfold f_X8_borrowed
          rw [f00.1, f00.2.2.2.2.1, x_hasTale_t I.x0 n2 hp]
          simp only [ob, i1f, eq_self, if_true, if_false]
          rw [x_hasTale_t I.x0 n2 hq]
          simp only [ob, i1f, eq_self, if_true, if_false]
          rw [nl3, x_in ht (by decide)]
          simp only [ob, i1f, eq_self, if_true, if_false]
          rw [a3, ob]
        have hM0 : ∀ g : tkH, g 218 = h 218 → ∃ h2, MF g h2 ∧ bM h2 (bI_ (h 218) p q (cL (h 218) p) 0 (0, 0, 0)) ∧ f_X9_borrowed g 217 (nI p) (nI q) (nI t) = if nI t = 0 then (some (h2 217 25, h2)) else (if (h2 217 25) = 0 then ((f_X9_finding h2 217 (-100006)).bind fun x57 => some (x57.1, x57.2)) else (if nI t = 1 then (some (h2 217 26, h2)) else (some (h2 217 27, h2)))) := by
          intro g e
          obtain ⟨h2, b1, b2, b3⟩ := m_find v e hp hq
          refine ⟨h2, b1, b2, ?_⟩
          unfold f_X9_borrowed
          rw [m_isTale_t (n := cN (h 218)) (by rw [e]; exact v.n.1) n2 hp]
          simp only [ob, i1f, eq_self, if_true, if_false]
          rw [m_isTale_t (n := cN (h 218)) (by rw [e]; exact v.n.1) n2 hq]
          simp only [ob, i1f, eq_self, if_true, if_false]
          rw [nl2, m_in (n := 2) (by omega) (by decide)]
          simp only [ob, i1f, eq_self, if_true, if_false]
          rw [b3, ob]
        generalize hs : bI_ (h 218) p q (cL (h 218) p) 0 (0, 0, 0) = s at *
        have e218 : h1 218 = h 218 := a1 218 (by decide) (by decide) (by decide)
        by_cases t0 : t = 0
        · obtain ⟨h2, b1, b2, b3⟩ := hM0 h1 e218
          refine OP.q (h1 := h1) (h2 := h2) (r := nI s.1) I ?_ ?_ a1.xf.p c1 b1
          · rw [hX0, if_pos (by rw [t0]; rfl), a2.1]
          · show f_X9_borrowed h1 217 (nI p) (nI q) (nI t) = _
            rw [b3, if_pos (by rw [t0]; rfl), b2.1]
        · have n0 : ¬ nI t = 0 := nI_ne0 (by omega) (by omega)
          by_cases s0 : s.1 = 0
          · refine OP.f (h1 := h1) (c := -100006) I a1.xf.p c1 ?_ (fun g e => ?_)
            · rw [hX0, if_neg n0, a2.1, s0, if_pos (show nI 0 = 0 from rfl)]
              rfl
            · obtain ⟨h2, b1, b2, b3⟩ := hM0 g ((e 218 (by decide)).trans e218)
              refine ⟨h2, b1, ?_⟩
              show f_X9_borrowed g 217 (nI p) (nI q) (nI t) = _
              rw [b3, if_neg n0, b2.1, s0, if_pos (show nI 0 = 0 from rfl)]
              rfl
          · obtain ⟨h2, b1, b2, b3⟩ := hM0 h1 e218
            have n1 : ¬ nI s.1 = 0 := nI_ne0 (by omega) (by omega)
            refine OP.q (h1 := h1) (h2 := h2) (r := if nI t = 1 then nI s.2.1 else nI s.2.2) I ?_ ?_ a1.xf.p c1 b1
            · rw [hX0, if_neg n0, a2.1, if_neg n1, (a2.2 (by omega)).1, (a2.2 (by omega)).2]
              by_cases t1 : nI t = 1
              · rw [if_pos t1, if_pos t1]
              · rw [if_neg t1, if_neg t1]
            · show f_X9_borrowed h1 217 (nI p) (nI q) (nI t) = _
              rw [b3, if_neg n0, b2.1, if_neg n1, (b2.2 (by omega)).1, (b2.2 (by omega)).2]
              by_cases t1 : nI t = 1
              · rw [if_pos t1, if_pos t1]
              · rw [if_neg t1, if_neg t1]
      · refine OP.f0 (c := -100001) I ?_ (fun g e => ?_)
        · unfold f_X8_borrowed
          rw [f00.1, x_hasTale_t I.x0 n2 hp]
          simp only [ob, i1f, eq_self, if_true, if_false]
          rw [x_hasTale_t I.x0 n2 hq]
          simp only [ob, i1f, eq_self, if_true, if_false]
          rw [nl3, x_out hc (by decide)]
          simp only [ob, i1f, eq_self, if_true, if_false]
          rfl
        · show f_X9_borrowed g 217 (nI p) (nI q) c = _
          unfold f_X9_borrowed
          rw [m_isTale_t (n := cN (h 218)) (by rw [e 218 (by decide)]; exact v.n.1) n2 hp]
          simp only [ob, i1f, eq_self, if_true, if_false]
          rw [m_isTale_t (n := cN (h 218)) (by rw [e 218 (by decide)]; exact v.n.1) n2 hq]
          simp only [ob, i1f, eq_self, if_true, if_false]
          rw [nl2, m_out (n := 2) hc (by decide)]
          simp only [ob, i1f, eq_self, if_true, if_false]
          rfl
    · refine OP.f0 (c := -100001) I ?_ (fun g e => ?_)
      · unfold f_X8_borrowed
        rw [f00.1, x_hasTale_t I.x0 n2 hp]
        simp only [ob, i1f, eq_self, if_true, if_false]
        rw [x_hasTale_f I.x0 n2 hb]
        simp only [ob, i1f, eq_self, if_true, if_false]
        rfl
      · show f_X9_borrowed g 217 (nI p) b c = _
        unfold f_X9_borrowed
        rw [m_isTale_t (n := cN (h 218)) (by rw [e 218 (by decide)]; exact v.n.1) n2 hp]
        simp only [ob, i1f, eq_self, if_true, if_false]
        rw [m_isTale_f (n := cN (h 218)) (by rw [e 218 (by decide)]; exact v.n.1) n2 hb]
        simp only [ob, i1f, eq_self, if_true, if_false]
        rfl
  · refine OP.f0 (c := -100001) I ?_ (fun g e => ?_)
    · unfold f_X8_borrowed
      rw [f00.1, x_hasTale_f I.x0 n2 ha]
      simp only [ob, i1f, eq_self, if_true, if_false]
      rfl
    · show f_X9_borrowed g 217 a b c = _
      unfold f_X9_borrowed
      rw [m_isTale_f (n := cN (h 218)) (by rw [e 218 (by decide)]; exact v.n.1) n2 ha]
      simp only [ob, i1f, eq_self, if_true, if_false]
      rfl
