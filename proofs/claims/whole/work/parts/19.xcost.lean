/-! the class: findLeast, layTales, ofPart, between -/
/-- as Option.bind_some, but a step of its own: the checker doesn't look through it -/
theorem ob {α β : Type} (x : α) (k : α → Option β) : (some x).bind k = k x := Eq.trans rfl rfl
theorem RW.keep {h h' : tkH} {c : Nat} {f : Nat → Int32} {t i n : Nat} {tr : Bool} (r : RW h c f t i n tr) (e1 : h' c = h c) (e2 : h' (c + 1) = h (c + 1)) : RW h' c f t i n tr := by
  unfold RW
  rw [e1, e2]
  exact r
abbrev xg (f : Nat → Int32) (a fa na : Nat) (ta : Bool) (b fb nb : Nat) (tb : Bool) : Nat → Nat := gq (cQ f 0) (cQ f 1) (cQ f 2) (cS f a) na (fa + na) ta (cS f b) nb (fb + nb) tb
theorem x_least {f : Nat → Int32} {a fa na b fb nb : Nat} {ta tb : Bool} (hV : XV f a fa na b fb nb) : ∀ (m n c : Nat) (g : tkH), m + c = 24 → m < n → XP g f → RW g 194 f a fa na ta → RW g 196 f b fb nb tb →
    (c = 0 → g 193 8 = nI 1000000) → (0 < c → g 193 8 = nI (bst (xg f a fa na ta b fb nb tb) c).1 ∧ g 193 9 = tkCv (bst (xg f a fa na ta b fb nb tb) c).2) →
    ∃ hf, (∀ q, q ≠ 193 → q ≠ 198 → q ≠ 199 → hf q = g q) ∧ XP hf f ∧ hf 193 8 = nI (bst (xg f a fa na ta b fb nb tb) 24).1 ∧ hf 193 9 = tkCv (bst (xg f a fa na ta b fb nb tb) 24).2 ∧ f_X4_findLeast_L29 193 n g (nI c) = some hf := by
  have hb := hV.b10
  have v := hV.1
  have q2 := (v.q (j := 2) (by decide)).2
  have hg : ∀ k, xg f a fa na ta b fb nb tb k ≤ 180 := fun k => gq_le q2 (by omega) (by omega)
  have hF : ∀ k, xg f a fa na ta b fb nb tb k < FAR := fun k => Nat.lt_of_le_of_lt (hg k) (by decide)
  intro m
  induction m with
  | zero =>
    intro n c g hc hn hP hA hB h0 h1
    obtain ⟨n', rfl⟩ : ∃ n', n = n' + 1 := ⟨n - 1, by omega⟩
    have : c = 24 := by omega
    subst this
    refine ⟨g, fun _ _ _ _ => rfl, hP, (h1 (by decide)).1, (h1 (by decide)).2, ?_⟩
    rw [f_X4_findLeast_L29_s, if_pos (by decide)]
  | succ m ih =>
    intro n c g hc hn hP hA hB h0 h1
    obtain ⟨n', rfl⟩ : ∃ n', n = n' + 1 := ⟨n - 1, by omega⟩
    rw [f_X4_findLeast_L29_s, if_neg (by rw [nl24, nI_leI (by omega) (by omega)]; omega)]
    have hB8 : ∃ B, B < 2 ^ 31 ∧ g 193 8 = nI B ∧ (c = 0 → B = 1000000) ∧ (0 < c → B = (bst (xg f a fa na ta b fb nb tb) c).1) := by
      by_cases e : c = 0
      · exact ⟨1000000, by decide, h0 e, fun _ => rfl, fun q => by omega⟩
      · exact ⟨(bst (xg f a fa na ta b fb nb tb) c).1, Nat.lt_trans (bst_lt _ hF c (by omega)) (by decide), (h1 (by omega)).1, fun q => absurd q e, fun _ => rfl⟩
    obtain ⟨B, hB31, eB, eB0, eB1⟩ := hB8
    by_cases hz : B = 0
    · have hc0 : 0 < c := by
        rcases Nat.eq_zero_or_pos c with e | e
        · have := eB0 e
          omega
        · exact e
      rw [eB, if_pos (by rw [hz]; decide)]
      have e24 : bst (xg f a fa na ta b fb nb tb) 24 = bst (xg f a fa na ta b fb nb tb) c := by
        have := bst_0 (xg f a fa na ta b fb nb tb) c (m + 1) (by rw [← eB1 hc0]; exact hz)
        rw [show c + (m + 1) = 24 by omega] at this
        exact this
      rw [e24]
      exact ⟨g, fun _ _ _ _ => rfl, hP, (h1 hc0).1, (h1 hc0).2, rfl⟩
    · rw [eB, if_neg (by rw [nl0, nI_leI hB31 (by decide)]; omega), rdC_n (by omega)]
      simp only [ob]
      obtain ⟨g1, a1, a2, a3⟩ := x_carrySteps (k := c) (by omega) v hV.2.1 hV.2.2.2.1 hA
      rw [a3]
      simp only [ob]
      have hP1 : XP g1 f := by unfold XP; rw [a1 193 (by decide)]; exact hP
      have hA1 : RW g1 194 f a fa na ta := hA.keep (a1 194 (by decide)) (a1 (194 + 1) (by decide))
      have hB1 : RW g1 196 f b fb nb tb := hB.keep (a1 196 (by decide)) (a1 (196 + 1) (by decide))
      have e8 : g1 193 8 = nI B := by rw [a1 193 (by decide)]; exact eB
      obtain ⟨g2, w, b1, b2, b3⟩ := x_fillRests (k := c) hV (by omega) hB31 ⟨hP1, a2, hA1, hB1⟩
      rw [e8, b3]
      simp only [ob]
      have hP2 : XP g2 f := by unfold XP; rw [b1 193 (by decide)]; exact hP1
      have hA2 : RW g2 194 f a fa na ta := hA1.keep (b1 194 (by decide)) (b1 (194 + 1) (by decide))
      have hB2 : RW g2 196 f b fb nb tb := hB1.keep (b1 196 (by decide)) (b1 (196 + 1) (by decide))
      have e82 : g2 193 8 = nI B := by rw [b1 193 (by decide)]; exact e8
      have e92 : g2 193 9 = g 193 9 := by rw [b1 193 (by decide), a1 193 (by decide)]
      have keep2 : ∀ q, q ≠ 193 → q ≠ 198 → q ≠ 199 → g2 q = g q := fun q _ h2 h3 => (b1 q h3).trans (a1 q h2)
      have hgc : xg f a fa na ta b fb nb tb c ≤ 180 := hg c
      have b2' : (w = xg f a fa na ta b fb nb tb c) ∨ (w = B ∧ B ≤ xg f a fa na ta b fb nb tb c) := by
        rcases b2 with ⟨z, -⟩ | z
        · exact Or.inl z
        · exact Or.inr z
      have hw : w < 2 ^ 31 := by omega
      rw [e82, nI_1]
      by_cases hlt : w < B
      · rw [if_neg (by rw [nI_leI hB31 hw]; omega)]
        have ew : w = xg f a fa na ta b fb nb tb c := by omega
        have eb1 : bst (xg f a fa na ta b fb nb tb) (c + 1) = (xg f a fa na ta b fb nb tb c, c) := by
          show (if _ then _ else _) = _
          rw [if_pos]
          rcases Nat.eq_zero_or_pos c with e | e
          · subst e
            exact hF 0
          · rw [← eB1 e, ← ew]
            exact hlt
        obtain ⟨hf, k1, k2, k3, k4, k5⟩ := ih n' (c + 1) (tkup (tkup g2 193 8 (nI w)) 193 9 (tkCv c)) (by omega) (by omega)
          ⟨by rw [up_i (by decide), up_i (by decide)]; exact hP2.1, by rw [up_i (by decide), up_i (by decide)]; exact hP2.2.1, by rw [up_i (by decide), up_i (by decide)]; exact hP2.2.2⟩
          (hA2.keep (by rw [up_a (by decide), up_a (by decide)]) (by rw [up_a (by decide), up_a (by decide)]))
          (hB2.keep (by rw [up_a (by decide), up_a (by decide)]) (by rw [up_a (by decide), up_a (by decide)]))
          (fun q => by omega) (fun _ => ⟨by rw [up_i (by decide), up_s, eb1, ew], by rw [up_s, eb1]⟩)
        exact ⟨hf, fun q h1 h2 h3 => by rw [k1 q h1 h2 h3, up_a h1, up_a h1, keep2 q h1 h2 h3], k2, k3, k4, k5⟩
      · rw [if_pos (by rw [nI_leI hB31 hw]; omega)]
        have hc0 : 0 < c := by
          rcases Nat.eq_zero_or_pos c with e | e
          · have := eB0 e
            omega
          · exact e
        have eb1 : bst (xg f a fa na ta b fb nb tb) (c + 1) = bst (xg f a fa na ta b fb nb tb) c := by
          show (if _ then _ else _) = _
          rw [if_neg]
          rw [← eB1 hc0]
          omega
        obtain ⟨hf, k1, k2, k3, k4, k5⟩ := ih n' (c + 1) g2 (by omega) (by omega) hP2 hA2 hB2 (fun q => by omega)
          (fun _ => ⟨by rw [eb1, e82, eB1 hc0], by rw [eb1, e92]; exact (h1 hc0).2⟩)
        exact ⟨hf, fun q h1 h2 h3 => by rw [k1 q h1 h2 h3, keep2 q h1 h2 h3], k2, k3, k4, k5⟩
theorem cq_x {f : Nat → Int32} {a fa na b fb nb : Nat} {ta tb : Bool} : cq (cQ f 0) (cQ f 1) (cQ f 2) (cS f a) na (fa + na) ta (cS f b) nb (fb + nb) tb = bst (xg f a fa na ta b fb nb tb) 24 := rfl
theorem x_findLeast {h : tkH} {f : Nat → Int32} {a fa na b fb nb : Nat} {ta tb : Bool} (hV : XV f a fa na b fb nb) (hp : ∀ j, j < 3 → h 8 j = f (1 + j)) (hA : RW h 194 f a fa na ta) (hB : RW h 196 f b fb nb tb) :
    ∃ hf, XF h hf ∧ (∀ q, q ≠ 193 → q ≠ 198 → q ≠ 199 → hf q = h q) ∧ XP hf f ∧ hf 193 8 = nI (cq (cQ f 0) (cQ f 1) (cQ f 2) (cS f a) na (fa + na) ta (cS f b) nb (fb + nb) tb).1 ∧ hf 193 9 = tkCv (cq (cQ f 0) (cQ f 1) (cQ f 2) (cS f a) na (fa + na) ta (cS f b) nb (fb + nb) tb).2 ∧ f_X4_findLeast h 193 8 = some hf := by
  have v := hV.1
  have r8 : ∀ (g : tkH) (j : Nat), j < 3 → rdI g 8 (nI j) = some (g 8 j) := fun g j hj => rdI_n (by simp only [LN]; exact hj) (by simp only [LN]; decide)
  have r0 : ∀ g : tkH, rdI g 8 0 = some (g 8 0) := fun g => r8 g 0 (by decide)
  have r1 : ∀ g : tkH, rdI g 8 1 = some (g 8 1) := fun g => r8 g 1 (by decide)
  have r2 : ∀ g : tkH, rdI g 8 2 = some (g 8 2) := fun g => r8 g 2 (by decide)
  have p0 : h 8 0 = nI (cQ f 0) := by rw [hp 0 (by decide)]; exact (v.q (j := 0) (by decide)).1
  have p1 : h 8 1 = nI (cQ f 1) := by rw [hp 1 (by decide)]; exact (v.q (j := 1) (by decide)).1
  have p2 : h 8 2 = nI (cQ f 2) := by rw [hp 2 (by decide)]; exact (v.q (j := 2) (by decide)).1
  have e8 : ∀ (g : tkH) (j : Nat) (x : Int32), (tkup g 193 j x) 8 = g 8 := fun g j x => up_a (by decide)
  have e0 : f_X4_findLeast h 193 8 = f_X4_findLeast_L29 193 FU (tkup (tkup (tkup (tkup h 193 5 (nI (cQ f 0))) 193 6 (nI (cQ f 1))) 193 7 (nI (cQ f 2))) 193 8 1000000) 0 := by
    unfold f_X4_findLeast
    simp only [r0, r1, r2, e8, p0, p1, p2, ob]
  rw [e0]
  rw [nl1000000]
  generalize hg : tkup (tkup (tkup (tkup h 193 5 (nI (cQ f 0))) 193 6 (nI (cQ f 1))) 193 7 (nI (cQ f 2))) 193 8 (nI 1000000) = g
  have ga : ∀ q, q ≠ 193 → g q = h q := fun q e => by rw [← hg, up_a e, up_a e, up_a e, up_a e]
  obtain ⟨hf, k1, k2, k3, k4, k5⟩ := x_least (ta := ta) (tb := tb) hV 24 FU 0 g rfl (FU_gt (by decide))
    (by rw [← hg]; exact ⟨by rw [up_i (by decide), up_i (by decide), up_i (by decide), up_s], by rw [up_i (by decide), up_i (by decide), up_s], by rw [up_i (by decide), up_s]⟩)
    (hA.keep (ga 194 (by decide)) (ga (194 + 1) (by decide))) (hB.keep (ga 196 (by decide)) (ga (196 + 1) (by decide)))
    (fun _ => by rw [← hg, up_s]) (fun q => absurd q (Nat.lt_irrefl _))
  refine ⟨hf, fun q e => ?_, fun q h1 h2 h3 => (k1 q h1 h2 h3).trans (ga q h1), k2, by rw [cq_x]; exact k3, by rw [cq_x]; exact k4, k5⟩
  rw [k1 q (by omega) (by omega) (by omega), ga q (by omega)]
theorem XV.of {f : Nat → Int32} {a b : Nat} (v : Vd f) (ha : a < cN f) (hb : b < cN f) : XV f a (fr f a) (to_ f a - fr f a) b (fr f b) (to_ f b - fr f b) := by
  have h1 := fr_le (f := f) (t := a)
  have h2 := fr_le (f := f) (t := b)
  exact ⟨v, ha, hb, by omega, by omega⟩
/-- the class has laid two tales: their rows, the prices, COST and THE CARRYING -/
def XL (h : tkH) (f : Nat → Int32) (a b : Nat) : Prop := RW h 194 f a (fr f a) (to_ f a - fr f a) (torn f a) ∧ RW h 196 f b (fr f b) (to_ f b - fr f b) (torn f b) ∧ XP h f ∧ h 193 8 = nI (cst f a b).1 ∧ h 193 9 = tkCv (cst f a b).2
theorem x_lay2 {h : tkH} {f : Nat → Int32} {a b : Nat} (r : XR h 1 f) (v : Vd f) (ha : a < cN f) (hb : b < cN f) : ∃ h1 h2 hf, f_X5_takeLaid h 194 1 (nI a) = some h1 ∧ f_X5_takeLaid h1 196 1 (nI b) = some h2 ∧ f_X4_findLeast h2 193 8 = some hf ∧ XF h hf ∧ XL hf f a b := by
  have la := fr_le (f := f) (t := a)
  have lb := fr_le (f := f) (t := b)
  obtain ⟨h1, a1, a2, a3, a4⟩ := x_takeLaid (c := 194) (Or.inl rfl) r v ha
  obtain ⟨h2, b1, b2, b3, b4⟩ := x_takeLaid (c := 196) (Or.inr rfl) (r.xf a1) v hb
  have ra : RW h2 194 f a (fr f a) (to_ f a - fr f a) (torn f a) := a3.keep (b2 194 (by decide) (by decide)) (b2 (194 + 1) (by decide) (by decide))
  obtain ⟨hf, c1, c2, c3, c4, c5, c6⟩ := x_findLeast (XV.of v ha hb) ((r.xf (a1.tr b1)).2.2.1) ra b3
  refine ⟨h1, h2, hf, a4, b4, c6, (a1.tr b1).tr c1, ra.keep (c2 194 (by decide) (by decide) (by decide)) (c2 (194 + 1) (by decide) (by decide) (by decide)), b3.keep (c2 196 (by decide) (by decide) (by decide)) (c2 (196 + 1) (by decide) (by decide) (by decide)), c3, ?_, ?_⟩
  · rw [c4, show fr f a + (to_ f a - fr f a) = to_ f a by omega, show fr f b + (to_ f b - fr f b) = to_ f b by omega]
    rfl
  · rw [c5, show fr f a + (to_ f a - fr f a) = to_ f a by omega, show fr f b + (to_ f b - fr f b) = to_ f b by omega]
    rfl
theorem x_layTales {h : tkH} {f : Nat → Int32} {a b : Nat} (r : XR h 1 f) (v : Vd f) (ha : a < cN f) (hb : b < cN f) : ∃ hf, XF h hf ∧ XL hf f a b ∧ f_X2_layTales h 192 1 (nI a) (nI b) = some (193, hf) := by
  obtain ⟨h1, h2, hf, e1, e2, e3, x1, x2⟩ := x_lay2 r v ha hb
  refine ⟨hf, x1, x2, ?_⟩
  unfold f_X2_layTales
  simp only [FL, e1, e2, e3, ob]
theorem x_ofPart {h : tkH} {f : Nat → Int32} {t i n b : Nat} (r : XR h 1 f) (v : Vd f) (ht : t < cN f) (hb : b < cN f) (hi : i + n ≤ cL f t) : ∃ hf, XF h hf ∧ f_X2_ofPart h 192 1 (nI t) (nI i) (nI n) (nI b) = some (nI (pst f t i (i + n) b).1, hf) := by
  have lb := fr_le (f := f) (t := b)
  obtain ⟨h1, a1, a2, a3, a4⟩ := x_takePart (c := 194) (Or.inl rfl) r v ht hi
  obtain ⟨h2, b1, b2, b3, b4⟩ := x_takeLaid (c := 196) (Or.inr rfl) (r.xf a1) v hb
  have ra : RW h2 194 f t i n false := a3.keep (b2 194 (by decide) (by decide)) (b2 (194 + 1) (by decide) (by decide))
  obtain ⟨hf, c1, c2, c3, c4, c5, c6⟩ := x_findLeast ⟨v, ht, hb, hi, by omega⟩ ((r.xf (a1.tr b1)).2.2.1) ra b3
  refine ⟨hf, (a1.tr b1).tr c1, ?_⟩
  unfold f_X2_ofPart
  simp only [FL, a4, b4, c6, ob]
  rw [c4, show fr f b + (to_ f b - fr f b) = to_ f b by omega]
  unfold pst
  rw [show i + n - i = n by omega]
/-- what is known of COSTS -/
def Ca (h : tkH) (f : Nat → Int32) : Prop := (∀ a b, a < 10 → b < 10 → h 201 (10 * a + b) = h 201 (10 * b + a)) ∧ ∀ a b, a < 10 → b < 10 → (a < cN f ∧ b < cN f → h 201 (10 * a + b) = -1 ∨ h 201 (10 * a + b) = nI (cst f a b).1) ∧ (¬ (a < cN f ∧ b < cN f) → h 201 (10 * a + b) = -1)
/-- the class's scratch and what is known of COSTS may have changed -/
def XK (h hf : tkH) : Prop := ∀ q, q ≤ 192 ∨ 208 ≤ q → hf q = h q
theorem XK.rf {h : tkH} : XK h h := fun _ _ => rfl
theorem XK.tr {h1 h2 h3 : tkH} (p : XK h1 h2) (q : XK h2 h3) : XK h1 h3 := fun a e => (q a e).trans (p a e)
theorem XF.k {h hf : tkH} (p : XF h hf) : XK h hf := fun q e => p q (by omega)
theorem XR.xk {h hf : tkH} {f : Nat → Int32} (r : XR h 1 f) (p : XK h hf) : XR hf 1 f := by
  unfold XR
  rw [p 1 (by omega), p (1 + 1) (by omega), p (1 + 2) (by omega), p (1 + 3) (by omega), p (1 + 4) (by omega), p (1 + 5) (by omega), p (1 + 6) (by omega), p (1 + 7) (by omega), p (1 + 8) (by omega)]
  exact r
theorem r201 {h : tkH} {k : Nat} (hk : k < 100) : rdI h 201 (nI k) = some (h 201 k) := rdI_n (by simp only [LN]; exact hk) (by simp only [LN]; decide)
theorem w201 {h : tkH} {k : Nat} {x : Int32} (hk : k < 100) : wrI h 201 (nI k) x = some (tkup h 201 k x) := wrI_n (by simp only [LN]; exact hk) (by simp only [LN]; decide)
theorem cst_sym {f : Nat → Int32} {a b : Nat} (v : Vd f) (ha : a < cN f) (hb : b < cN f) : (cst f a b).1 = (cst f b a).1 := by
  have h := (MV.of v ha hb).b10
  have la := fr_le (f := f) (t := a)
  have lb := fr_le (f := f) (t := b)
  unfold cst
  refine cq_sym (v.q (j := 2) (by decide)).2 (by omega) (by omega) (by omega) (by omega) (fun i w hi h1 h2 => ?_) (fun i w hi h1 h2 => ?_)
  · rcases (by omega : w = 1 ∨ w = 2) with rfl | rfl
    · have := (v.s1 ha (i := i) (by omega)).2
      omega
    · have := (v.s2 ha (i := i) (by omega)).2
      omega
  · rcases (by omega : w = 1 ∨ w = 2) with rfl | rfl
    · have := (v.s1 hb (i := i) (by omega)).2
      omega
    · have := (v.s2 hb (i := i) (by omega)).2
      omega
theorem x_between {h : tkH} {f : Nat → Int32} {a b : Nat} (r : XR h 1 f) (v : Vd f) (k : Ca h f) (ha : a < cN f) (hb : b < cN f) : ∃ hf, XK h hf ∧ Ca hf f ∧ hf 201 (10 * a + b) = nI (cst f a b).1 ∧ (∀ x y, x < cN f → y < cN f → h 201 (10 * x + y) = nI (cst f x y).1 → hf 201 (10 * x + y) = nI (cst f x y).1) ∧ f_X2_between h 192 1 (nI a) (nI b) = some (nI (cst f a b).1, hf) := by
  have n := v.n.2
  have hc := (cst_le v ha hb).1
  have e1 : (nI a * 10 + nI b : Int32) = nI (10 * a + b) := by rw [nl10, pk_mul, nI_add, Nat.mul_comm]
  have e2 : (nI b * 10 + nI a : Int32) = nI (10 * b + a) := by rw [nl10, pk_mul, nI_add, Nat.mul_comm]
  unfold f_X2_between f_X2_between_J85
  rw [show fld 192 1 = 201 by simp only [FL], show fld 192 0 = 193 by simp only [FL], show fld 193 0 = 194 by simp only [FL], show fld 193 1 = 196 by simp only [FL], show fld 1 7 = 8 by simp only [FL], e1, e2, r201 (by omega), ob]
  by_cases c : h 201 (10 * a + b) = -1
  · rw [c, if_neg (by decide)]
    obtain ⟨h1, h2, h3, t1, t2, t3, x1, x2⟩ := x_lay2 r v ha hb
    rw [t1, ob, t2, ob, t3, ob, x2.2.2.2.1, w201 (by omega), ob, up_a (by decide), x2.2.2.2.1, w201 (by omega), ob]
    have e201 : h3 201 = h 201 := x1 201 (by omega)
    generalize hg : tkup (tkup h3 201 (10 * a + b) (nI (cst f a b).1)) 201 (10 * b + a) (nI (cst f a b).1) = g
    have gv : ∀ i, g 201 i = if i = 10 * b + a ∨ i = 10 * a + b then nI (cst f a b).1 else h 201 i := by
      intro i
      rw [← hg]
      by_cases i1 : i = 10 * b + a
      · subst i1
        rw [up_s, if_pos (Or.inl rfl)]
      · rw [up_i i1]
        by_cases i2 : i = 10 * a + b
        · subst i2
          rw [up_s, if_pos (Or.inr rfl)]
        · rw [up_i i2, e201, if_neg (fun z => z.elim i1 i2)]
    refine ⟨g, ?_, ⟨fun x y hx hy => ?_, fun x y hx hy => ⟨fun hxy => ?_, fun hxy => ?_⟩⟩, ?_, fun x y hx hy hxy => ?_, ?_⟩
    · intro q e
      rw [← hg, up_a (by omega), up_a (by omega)]
      exact x1 q (by omega)
    · rw [gv, gv]
      by_cases i1 : 10 * x + y = 10 * b + a ∨ 10 * x + y = 10 * a + b
      · rw [if_pos i1, if_pos (by omega)]
      · rw [if_neg i1, if_neg (by omega)]
        exact k.1 x y hx hy
    · rw [gv]
      by_cases i1 : 10 * x + y = 10 * b + a ∨ 10 * x + y = 10 * a + b
      · rw [if_pos i1]
        rcases i1 with i1 | i1
        · have : x = b ∧ y = a := by omega
          rw [this.1, this.2, cst_sym v hb ha]
          exact Or.inr rfl
        · have : x = a ∧ y = b := by omega
          rw [this.1, this.2]
          exact Or.inr rfl
      · rw [if_neg i1]
        exact (k.2 x y hx hy).1 hxy
    · rw [gv, if_neg (by omega)]
      exact (k.2 x y hx hy).2 hxy
    · rw [gv, if_pos (Or.inr rfl)]
    · rw [gv]
      by_cases i1 : 10 * x + y = 10 * b + a ∨ 10 * x + y = 10 * a + b
      · rw [if_pos i1]
        rcases i1 with i1 | i1
        · have : x = b ∧ y = a := by omega
          rw [this.1, this.2, cst_sym v hb ha]
        · have : x = a ∧ y = b := by omega
          rw [this.1, this.2]
      · rw [if_neg i1]
        exact hxy
    · rw [r201 (by omega), ob, gv, if_pos (Or.inr rfl)]
  · have hk : h 201 (10 * a + b) = nI (cst f a b).1 := ((k.2 a b (by omega) (by omega)).1 ⟨ha, hb⟩).resolve_left c
    rw [hk, if_pos (nI_pos' (by omega)), ob]
    exact ⟨h, XK.rf, k, hk, fun _ _ _ _ z => z, rfl⟩
