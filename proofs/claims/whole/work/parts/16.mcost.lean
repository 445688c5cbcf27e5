/-! the reference: leastCost, takeTwo, costOf, partCost -/
/-- only the reference's scratch may have changed -/
def MG (h hf : tkH) : Prop := (∀ q, q < 217 ∨ (218 ≤ q ∧ q ≤ 222) ∨ 225 ≤ q → hf q = h q) ∧ ∀ j, j < 8 ∨ 18 ≤ j → hf 217 j = h 217 j
theorem MG.rf {h : tkH} : MG h h := ⟨fun _ _ => rfl, fun _ _ => rfl⟩
theorem MG.tr {h1 h2 h3 : tkH} (p : MG h1 h2) (q : MG h2 h3) : MG h1 h3 := ⟨fun a e => (q.1 a e).trans (p.1 a e), fun j e => (q.2 j e).trans (p.2 j e)⟩
theorem MG.up {h : tkH} {j : Nat} {v : Int32} (h2 : 8 ≤ j) (h3 : j < 18) : MG h (tkup h 217 j v) := ⟨fun q e => up_a (by omega), fun i e => up_i (by omega)⟩
theorem MG.f {h hf : tkH} (p : MG h hf) : hf 218 = h 218 := p.1 218 (by omega)
/-- a tale's first LAID STEP, the place behind its last, whether it is TORN -/
def fr (f : Nat → Int32) (t : Nat) : Nat := if cK f t = 2 ∧ 2 ≤ cL f t then 1 else 0
def to_ (f : Nat → Int32) (t : Nat) : Nat := cL f t - fr f t
def torn (f : Nat → Int32) (t : Nat) : Bool := cK f t == 1 || cK f t == 3
theorem fr_le {f : Nat → Int32} {t : Nat} : fr f t ≤ to_ f t ∧ to_ f t ≤ cL f t := by
  unfold to_ fr
  split <;> omega
theorem m_isCut {h : tkH} {t : Nat} (v : Vd (h 218)) (ht : t < cN (h 218)) : f_X9_isCut h 217 (nI t) = some (nI (fr (h 218) t), h) := by
  have n := v.n.2
  have k := v.k ht
  have l := v.l ht
  unfold f_X9_isCut
  simp only [FL, nl40, nl70, nI_add]
  rw [r218 (by omega), k.1]
  simp only [Option.bind_some]
  rw [nl2, nI_inj_if (by omega) (by omega)]
  unfold fr
  by_cases h1 : cK (h 218) t = 2
  · rw [if_pos h1, r218 (by omega), l.1]
    simp only [Option.bind_some]
    by_cases h2 : 2 ≤ cL (h 218) t
    · rw [if_neg (by rw [nl1, nI_leI (by omega) (by omega)]; omega), if_pos ⟨h1, h2⟩]
      rfl
    · rw [if_pos (by rw [nl1, nI_leI (by omega) (by omega)]; omega), if_neg (fun q => h2 q.2)]
      rfl
  · rw [if_neg h1, if_neg (fun q => h1 q.1)]
    rfl
theorem m_laidFrom {h : tkH} {t : Nat} (v : Vd (h 218)) (ht : t < cN (h 218)) : f_X9_laidFrom h 217 (nI t) = some (nI (fr (h 218) t), h) := by
  unfold f_X9_laidFrom
  rw [m_isCut v ht]
  simp only [Option.bind_some]
  unfold fr
  split
  · rw [if_neg (by decide)]; rfl
  · rw [if_pos (by rfl)]; rfl
theorem m_laidTo {h : tkH} {t : Nat} (v : Vd (h 218)) (ht : t < cN (h 218)) : f_X9_laidTo h 217 (nI t) = some (nI (to_ (h 218) t), h) := by
  have n := v.n.2
  have l := v.l ht
  unfold f_X9_laidTo
  simp only [FL, nl70, nI_add]
  rw [r218 (by omega), l.1]
  simp only [Option.bind_some]
  rw [m_laidFrom v ht]
  simp only [Option.bind_some]
  rw [pk_sub (by unfold fr; split <;> omega)]
  rfl
theorem m_isTorn {h : tkH} {t : Nat} (v : Vd (h 218)) (ht : t < cN (h 218)) : f_X9_isTorn h 217 (nI t) = some (bI (torn (h 218) t), h) := by
  have n := v.n.2
  have k := v.k ht
  unfold f_X9_isTorn
  simp only [FL, nl40, nI_add]
  rw [r218 (by omega), k.1]
  simp only [Option.bind_some]
  rw [show (if nI (cK (h 218) t) = 1 then some ((1 : Int32), h) else if nI (cK (h 218) t) = 3 then some (1, h) else some (0, h)) = if nI (cK (h 218) t) = nI 1 then some ((1 : Int32), h) else if nI (cK (h 218) t) = nI 3 then some (1, h) else some (0, h) from rfl]
  rw [nI_inj_if (by omega) (by omega), nI_inj_if (by omega) (by omega)]
  unfold torn bI
  by_cases h1 : cK (h 218) t = 1
  · simp [h1]
  · by_cases h3 : cK (h 218) t = 3
    · simp [h3]
    · simp [h1, h3]
theorem bz_bI (b : Bool) : bz (bI b) = some (bI b) := by cases b <;> rfl
theorem m_takeOther {h : tkH} {t : Nat} (v : Vd (h 218)) (ht : t < cN (h 218)) : f_X9_takeOther h 217 (nI t) = some (tkup (tkup (tkup (tkup h 217 12 (nI t)) 217 13 (nI (fr (h 218) t))) 217 14 (nI (to_ (h 218) t))) 217 15 (bI (torn (h 218) t))) := by
  have e : ∀ (g : tkH) (j : Nat) (x : Int32), (tkup g 217 j x) 218 = g 218 := fun g j x => up_a (by decide)
  unfold f_X9_takeOther
  rw [m_laidFrom (by rw [e]; exact v) (by rw [e]; exact ht)]
  simp only [Option.bind_some]
  rw [m_laidTo (by rw [e, e]; exact v) (by rw [e, e]; exact ht)]
  simp only [Option.bind_some]
  rw [m_isTorn (by rw [e, e, e]; exact v) (by rw [e, e, e]; exact ht)]
  simp only [Option.bind_some]
  rw [bz_bI]
  simp only [Option.bind_some, e]
theorem m_takeTwo {h : tkH} {a b : Nat} (v : Vd (h 218)) (ha : a < cN (h 218)) (hb : b < cN (h 218)) : ∃ hf, MG h hf ∧ MS hf a (fr (h 218) a) (to_ (h 218) a) (torn (h 218) a) b (fr (h 218) b) (to_ (h 218) b) (torn (h 218) b) ∧ f_X9_takeTwo h 217 (nI a) (nI b) = some hf := by
  have e : ∀ (g : tkH) (j : Nat) (x : Int32), (tkup g 217 j x) 218 = g 218 := fun g j x => up_a (by decide)
  unfold f_X9_takeTwo
  rw [m_laidFrom (by rw [e]; exact v) (by rw [e]; exact ha)]
  simp only [Option.bind_some]
  rw [m_laidTo (by rw [e, e]; exact v) (by rw [e, e]; exact ha)]
  simp only [Option.bind_some]
  rw [m_isTorn (by rw [e, e, e]; exact v) (by rw [e, e, e]; exact ha)]
  simp only [Option.bind_some]
  rw [bz_bI]
  simp only [Option.bind_some]
  rw [m_takeOther (by rw [e, e, e, e]; exact v) (by rw [e, e, e, e]; exact hb)]
  simp only [Option.bind_some, e]
  refine ⟨_, ?_, ?_, rfl⟩
  · exact ((((((((MG.up (by decide) (by decide)).tr (MG.up (by decide) (by decide))).tr (MG.up (by decide) (by decide))).tr (MG.up (by decide) (by decide))).tr (MG.up (by decide) (by decide))).tr (MG.up (by decide) (by decide))).tr (MG.up (by decide) (by decide))).tr (MG.up (by decide) (by decide)))
  · refine ⟨?_, ?_, ?_, ?_, ?_, ?_, ?_, ?_⟩ <;> simp [up_eq]
theorem m_least {a fa ea b fb eb : Nat} {ta tb : Bool} (hfa : fa ≤ ea) (hfb : fb ≤ eb) (f : Nat → Int32) (hV : MV f a ea b eb) : ∀ (m n k : Nat) (g : tkH), m + k = 24 → m < n → MS g a fa ea ta b fb eb tb → g 218 = f →
    (0 < k → g 217 17 = nI (bst (gq (cQ f 0) (cQ f 1) (cQ f 2) (cS f a) (ea - fa) ea ta (cS f b) (eb - fb) eb tb) k).2) →
    ∃ hf, MG g hf ∧ (∀ j, j ≠ 17 → hf 217 j = g 217 j) ∧ hf 217 17 = nI (cq (cQ f 0) (cQ f 1) (cQ f 2) (cS f a) (ea - fa) ea ta (cS f b) (eb - fb) eb tb).2 ∧
      f_X9_leastCost_L5 217 n g (nI (bst (gq (cQ f 0) (cQ f 1) (cQ f 2) (cS f a) (ea - fa) ea ta (cS f b) (eb - fb) eb tb) k).1) (nI k) = some (nI (cq (cQ f 0) (cQ f 1) (cQ f 2) (cS f a) (ea - fa) ea ta (cS f b) (eb - fb) eb tb).1, hf) := by
  have hb := hV.b10
  have q2 := hV.1.q (j := 2) (by decide)
  have hg : ∀ k, gq (cQ f 0) (cQ f 1) (cQ f 2) (cS f a) (ea - fa) ea ta (cS f b) (eb - fb) eb tb k ≤ 180 := fun k => gq_le q2.2 (by omega) (by omega)
  have hF : ∀ k, gq (cQ f 0) (cQ f 1) (cQ f 2) (cS f a) (ea - fa) ea ta (cS f b) (eb - fb) eb tb k < FAR := fun k => Nat.lt_of_le_of_lt (hg k) (by decide)
  intro m
  induction m with
  | zero =>
    intro n k g hk hn hS e218 h17
    obtain ⟨n', rfl⟩ : ∃ n', n = n' + 1 := ⟨n - 1, by omega⟩
    have : k = 24 := by omega
    subst this
    refine ⟨g, MG.rf, fun _ _ => rfl, h17 (by decide), ?_⟩
    rw [f_X9_leastCost_L5_s, if_pos (by decide)]
    rfl
  | succ m ih =>
    intro n k g hk hn hS e218 h17
    obtain ⟨n', rfl⟩ : ∃ n', n = n' + 1 := ⟨n - 1, by omega⟩
    rw [f_X9_leastCost_L5_s, if_neg (by rw [nl24, nI_leI (by omega) (by omega)]; omega)]
    obtain ⟨h1, g1, g2, g3, g4⟩ := m_layBy (k := k) (by omega) hfa hfb hS (by rw [e218]; exact hV)
    rw [g4]
    simp only [Option.bind_some]
    have f1 : MG g h1 := ⟨fun q e => g1 q (by omega) (by omega), fun j _ => by rw [g1 217 (by decide) (by decide)]⟩
    have e217 : h1 217 = g 217 := g1 217 (by decide) (by decide)
    rw [e218]
    have hbl : (bst (gq (cQ f 0) (cQ f 1) (cQ f 2) (cS f a) (ea - fa) ea ta (cS f b) (eb - fb) eb tb) k).1 ≤ FAR := by
      cases k with
      | zero => exact Nat.le_refl _
      | succ k => exact Nat.le_of_lt (bst_lt _ hF _ (by omega))
    have hbl' : (bst (gq (cQ f 0) (cQ f 1) (cQ f 2) (cS f a) (ea - fa) ea ta (cS f b) (eb - fb) eb tb) k).1 < 2 ^ 31 := Nat.lt_of_le_of_lt hbl (by decide)
    have hgk := hg k
    rw [nI_1]
    by_cases hlt : gq (cQ f 0) (cQ f 1) (cQ f 2) (cS f a) (ea - fa) ea ta (cS f b) (eb - fb) eb tb k < (bst (gq (cQ f 0) (cQ f 1) (cQ f 2) (cS f a) (ea - fa) ea ta (cS f b) (eb - fb) eb tb) k).1
    · rw [if_neg (by rw [nI_leI hbl' (by omega)]; omega)]
      have eb1 : bst (gq (cQ f 0) (cQ f 1) (cQ f 2) (cS f a) (ea - fa) ea ta (cS f b) (eb - fb) eb tb) (k + 1) = (gq (cQ f 0) (cQ f 1) (cQ f 2) (cS f a) (ea - fa) ea ta (cS f b) (eb - fb) eb tb k, k) := by
        show (if _ then _ else _) = _
        rw [if_pos hlt]
      obtain ⟨hf, k1, k2, k3, k4⟩ := ih n' (k + 1) (tkup h1 217 17 (nI k)) (by omega) (by omega) (by
          obtain ⟨s8, s9, s10, s11, s12, s13, s14, s15⟩ := hS.bc e217
          exact ⟨by rw [up_i (by decide)]; exact s8, by rw [up_i (by decide)]; exact s9, by rw [up_i (by decide)]; exact s10, by rw [up_i (by decide)]; exact s11, by rw [up_i (by decide)]; exact s12, by rw [up_i (by decide)]; exact s13, by rw [up_i (by decide)]; exact s14, by rw [up_i (by decide)]; exact s15⟩)
        (by rw [up_a (by decide)]; exact f1.f.trans e218) (fun _ => by rw [up_s, eb1])
      rw [eb1] at k4
      exact ⟨hf, f1.tr ((MG.up (by decide) (by decide)).tr k1), fun j hj => by rw [k2 j hj, up_i hj, e217], k3, k4⟩
    · rw [if_pos (by rw [nI_leI hbl' (by omega)]; omega)]
      have eb1 : bst (gq (cQ f 0) (cQ f 1) (cQ f 2) (cS f a) (ea - fa) ea ta (cS f b) (eb - fb) eb tb) (k + 1) = bst (gq (cQ f 0) (cQ f 1) (cQ f 2) (cS f a) (ea - fa) ea ta (cS f b) (eb - fb) eb tb) k := by
        show (if _ then _ else _) = _
        rw [if_neg hlt]
      obtain ⟨hf, k1, k2, k3, k4⟩ := ih n' (k + 1) h1 (by omega) (by omega) (hS.bc e217) (f1.f.trans e218) (fun _ => by
        rw [eb1, e217]
        refine h17 ?_
        cases k with
        | zero => exact absurd (hF 0) hlt
        | succ k => omega)
      rw [eb1] at k4
      exact ⟨hf, f1.tr k1, fun j hj => by rw [k2 j hj, e217], k3, k4⟩
theorem m_leastCost {h : tkH} {a fa ea b fb eb : Nat} {ta tb : Bool} (hfa : fa ≤ ea) (hfb : fb ≤ eb) (hV : MV (h 218) a ea b eb) (hS : MS h a fa ea ta b fb eb tb) :
    ∃ hf, MG h hf ∧ (∀ j, j ≠ 17 → hf 217 j = h 217 j) ∧ hf 217 17 = nI (cq (cQ (h 218) 0) (cQ (h 218) 1) (cQ (h 218) 2) (cS (h 218) a) (ea - fa) ea ta (cS (h 218) b) (eb - fb) eb tb).2 ∧
      f_X9_leastCost h 217 = some (nI (cq (cQ (h 218) 0) (cQ (h 218) 1) (cQ (h 218) 2) (cS (h 218) a) (ea - fa) ea ta (cS (h 218) b) (eb - fb) eb tb).1, hf) :=
  m_least hfa hfb (h 218) hV 24 FU 0 h rfl (FU_gt (by decide)) hS rfl (fun q => absurd q (Nat.lt_irrefl _))
/-- COST of two tales, and THE CARRYING's place -/
def cst (f : Nat → Int32) (a b : Nat) : Nat × Nat := cq (cQ f 0) (cQ f 1) (cQ f 2) (cS f a) (to_ f a - fr f a) (to_ f a) (torn f a) (cS f b) (to_ f b - fr f b) (to_ f b) (torn f b)
/-- COST of a part of a tale, as a TALE, and another one -/
def pst (f : Nat → Int32) (t i j b : Nat) : Nat × Nat := cq (cQ f 0) (cQ f 1) (cQ f 2) (cS f t) (j - i) j false (cS f b) (to_ f b - fr f b) (to_ f b) (torn f b)
theorem MV.of {f : Nat → Int32} {a b : Nat} (v : Vd f) (ha : a < cN f) (hb : b < cN f) : MV f a (to_ f a) b (to_ f b) := ⟨v, ha, hb, fr_le.2, fr_le.2⟩
theorem cq_ok {p0 p1 p2 : Nat} (hp : p2 ≤ 9) {A B : Nat → Nat → Nat} {na ea nb eb : Nat} {ta tb : Bool} (ha : na ≤ 10) (hb : nb ≤ 10) : (cq p0 p1 p2 A na ea ta B nb eb tb).1 ≤ 180 ∧ (cq p0 p1 p2 A na ea ta B nb eb tb).2 < 24 := by
  unfold cq
  have m := bst_mem (gq p0 p1 p2 A na ea ta B nb eb tb) (fun k => Nat.lt_of_le_of_lt (gq_le hp ha hb) (by decide)) 24 (by decide)
  refine ⟨?_, m.1⟩
  rw [m.2]
  exact gq_le hp ha hb
theorem cst_le {f : Nat → Int32} {a b : Nat} (v : Vd f) (ha : a < cN f) (hb : b < cN f) : (cst f a b).1 ≤ 180 ∧ (cst f a b).2 < 24 := by
  have h := (MV.of v ha hb).b10
  have q2 := v.q (j := 2) (by decide)
  unfold cst
  exact cq_ok q2.2 (by omega) (by omega)
theorem pst_le {f : Nat → Int32} {t i j b : Nat} (v : Vd f) (ht : t < cN f) (hb : b < cN f) (hj : j ≤ cL f t) : (pst f t i j b).1 ≤ 180 ∧ (pst f t i j b).2 < 24 := by
  have h := (MV.of v ht hb).b10
  have l := (v.l ht).2
  have q2 := v.q (j := 2) (by decide)
  unfold pst
  exact cq_ok q2.2 (by omega) (by omega)
theorem m_costOfG {h : tkH} {a b : Nat} (v : Vd (h 218)) (ha : a < cN (h 218)) (hb : b < cN (h 218)) :
    ∃ hf, MG h hf ∧ MS hf a (fr (h 218) a) (to_ (h 218) a) (torn (h 218) a) b (fr (h 218) b) (to_ (h 218) b) (torn (h 218) b) ∧ hf 217 17 = nI (cst (h 218) a b).2 ∧ f_X9_costOf h 217 (nI a) (nI b) = some (nI (cst (h 218) a b).1, hf) := by
  obtain ⟨h1, f1, s1, e1⟩ := m_takeTwo v ha hb
  unfold f_X9_costOf
  rw [e1]
  simp only [Option.bind_some]
  obtain ⟨h2, f2, k2, a2, e2⟩ := m_leastCost fr_le.1 fr_le.1 (by rw [f1.f]; exact MV.of v ha hb) s1
  rw [e2]
  simp only [Option.bind_some]
  rw [f1.f] at a2 e2 ⊢
  refine ⟨h2, f1.tr f2, ?_, a2, rfl⟩
  obtain ⟨s8, s9, s10, s11, s12, s13, s14, s15⟩ := s1
  exact ⟨by rw [k2 _ (by decide)]; exact s8, by rw [k2 _ (by decide)]; exact s9, by rw [k2 _ (by decide)]; exact s10, by rw [k2 _ (by decide)]; exact s11, by rw [k2 _ (by decide)]; exact s12, by rw [k2 _ (by decide)]; exact s13, by rw [k2 _ (by decide)]; exact s14, by rw [k2 _ (by decide)]; exact s15⟩
theorem m_partCostG {h : tkH} {t i j b : Nat} (v : Vd (h 218)) (ht : t < cN (h 218)) (hb : b < cN (h 218)) (hij : i ≤ j) (hj : j ≤ cL (h 218) t) :
    ∃ hf, MG h hf ∧ f_X9_partCost h 217 (nI t) (nI i) (nI j) (nI b) = some (nI (pst (h 218) t i j b).1, hf) := by
  have e : ∀ (g : tkH) (j : Nat) (x : Int32), (tkup g 217 j x) 218 = g 218 := fun g j x => up_a (by decide)
  unfold f_X9_partCost
  rw [m_takeOther (by rw [e, e, e, e]; exact v) (by rw [e, e, e, e]; exact hb)]
  simp only [Option.bind_some, e]
  generalize hg : (tkup (tkup (tkup (tkup (tkup (tkup (tkup (tkup h 217 8 (nI t)) 217 9 (nI i)) 217 10 (nI j)) 217 11 0) 217 12 (nI b)) 217 13 (nI (fr (h 218) b))) 217 14 (nI (to_ (h 218) b))) 217 15 (bI (torn (h 218) b))) = g
  have gf : MG h g := by
    rw [← hg]
    exact ((((((((MG.up (by decide) (by decide)).tr (MG.up (by decide) (by decide))).tr (MG.up (by decide) (by decide))).tr (MG.up (by decide) (by decide))).tr (MG.up (by decide) (by decide))).tr (MG.up (by decide) (by decide))).tr (MG.up (by decide) (by decide))).tr (MG.up (by decide) (by decide)))
  have gs : MS g t i j false b (fr (h 218) b) (to_ (h 218) b) (torn (h 218) b) := by
    rw [← hg]
    refine ⟨?_, ?_, ?_, ?_, ?_, ?_, ?_, ?_⟩ <;> simp [up_eq, bI]
  obtain ⟨h2, f2, -, -, e2⟩ := m_leastCost hij fr_le.1 (by rw [gf.f]; exact ⟨v, ht, hb, hj, fr_le.2⟩) gs
  rw [e2, gf.f]
  simp only [Option.bind_some]
  exact ⟨h2, gf.tr f2, rfl⟩
def MF (h hf : tkH) : Prop := (∀ q, q < 217 ∨ (218 ≤ q ∧ q ≤ 222) → hf q = h q) ∧ hf 217 2 = h 217 2 ∧ hf 217 3 = h 217 3
theorem MF.rf {h : tkH} : MF h h := ⟨fun _ _ => rfl, rfl, rfl⟩
theorem MF.tr {h1 h2 h3 : tkH} (p : MF h1 h2) (q : MF h2 h3) : MF h1 h3 := ⟨fun a e => (q.1 a e).trans (p.1 a e), q.2.1.trans p.2.1, q.2.2.trans p.2.2⟩
theorem MF.up {h : tkH} {j : Nat} {v : Int32} (h2 : j ≠ 2) (h3 : j ≠ 3) : MF h (tkup h 217 j v) := ⟨fun q e => up_a (by omega), up_i (fun e => h2 e.symm), up_i (fun e => h3 e.symm)⟩
theorem MF.f {h hf : tkH} (p : MF h hf) : hf 218 = h 218 := p.1 218 (by omega)
theorem MG.m {h hf : tkH} (p : MG h hf) : MF h hf := ⟨fun q e => p.1 q (by omega), p.2 2 (by decide), p.2 3 (by decide)⟩
theorem m_costOf {h : tkH} {a b : Nat} (v : Vd (h 218)) (ha : a < cN (h 218)) (hb : b < cN (h 218)) :
    ∃ hf, MF h hf ∧ MS hf a (fr (h 218) a) (to_ (h 218) a) (torn (h 218) a) b (fr (h 218) b) (to_ (h 218) b) (torn (h 218) b) ∧ hf 217 17 = nI (cst (h 218) a b).2 ∧ f_X9_costOf h 217 (nI a) (nI b) = some (nI (cst (h 218) a b).1, hf) := by
  obtain ⟨h1, a1, a2⟩ := m_costOfG v ha hb
  exact ⟨h1, a1.m, a2⟩
theorem m_partCost {h : tkH} {t i j b : Nat} (v : Vd (h 218)) (ht : t < cN (h 218)) (hb : b < cN (h 218)) (hij : i ≤ j) (hj : j ≤ cL (h 218) t) :
    ∃ hf, MF h hf ∧ f_X9_partCost h 217 (nI t) (nI i) (nI j) (nI b) = some (nI (pst (h 218) t i j b).1, hf) := by
  obtain ⟨h1, a1, a2⟩ := m_partCostG v ht hb hij hj
  exact ⟨h1, a1.m, a2⟩
