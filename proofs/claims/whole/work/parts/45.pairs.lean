/-! pair, pairs -/
theorem bst_g (g : Nat → Nat) (hg : ∀ k, g k < FAR) (n : Nat) (h : 0 < n) : g (bst g n).2 = (bst g n).1 := (bst_mem g hg n h).2.symm
theorem cq_g {p0 p1 p2 : Nat} (hp : p2 ≤ 9) {A B : Nat → Nat → Nat} {na ea nb eb : Nat} {ta tb : Bool} (ha : na ≤ 10) (hb : nb ≤ 10) (c : Nat × Nat) (hc : c = cq p0 p1 p2 A na ea ta B nb eb tb) : gq p0 p1 p2 A na ea ta B nb eb tb c.2 = c.1 := by
  have h := bst_g (gq p0 p1 p2 A na ea ta B nb eb tb) (fun k => Nat.lt_of_le_of_lt (gq_le hp ha hb) (by decide)) 24 (by decide)
  unfold cq at hc
  rw [← hc] at h
  exact h
theorem cst_g {f : Nat → Int32} {a b : Nat} (v : Vd f) (ha : a < cN f) (hb : b < cN f) : gq (cQ f 0) (cQ f 1) (cQ f 2) (cS f a) (to_ f a - fr f a) (to_ f a) (torn f a) (cS f b) (to_ f b - fr f b) (to_ f b) (torn f b) (cst f a b).2 = (cst f a b).1 := by
  have la := (v.l ha).2
  have lb := (v.l hb).2
  have ra := fr_le (f := f) (t := a)
  have rb := fr_le (f := f) (t := b)
  refine cq_g (v.q (j := 2) (by decide)).2 (by omega) (by omega) (cst f a b) ?_
  unfold cst
  exact Eq.refl _
theorem m_m19 {kx : tkH → Option tkH} : ∀ (m n t : Nat) (g : tkH), m + t = 10 → m < n → ∃ hf, BC 225 g hf ∧ (∀ x, t ≤ x → x < 10 → hf 225 x = -1) ∧ (∀ x, x < t → hf 225 x = g 225 x) ∧ f_X9_findPairs_L19 217 kx n g (nI t) = kx hf := by
  have l225 : ln 225 = 10 := by simp only [LN]
  intro m
  induction m with
  | zero =>
    intro n t g h1 hn
    obtain ⟨n', rfl⟩ : ∃ n', n = n' + 1 := ⟨n - 1, by omega⟩
    refine ⟨g, BC.rf, fun x h2 h3 => by omega, fun _ _ => rfl, ?_⟩
    rw [f_X9_findPairs_L19_s, if_pos (by rw [nl10, nI_leI (by omega) (by omega)]; omega)]
  | succ m ih =>
    intro n t g h1 hn
    obtain ⟨n', rfl⟩ : ∃ n', n = n' + 1 := ⟨n - 1, by omega⟩
    rw [f_X9_findPairs_L19_s, if_neg (by rw [nl10, nI_leI (by omega) (by omega)]; omega), show fld 217 18 = 225 by simp only [FL], wrI_n (by omega) (by omega), ob, nI_1]
    obtain ⟨hf, b1, b2, b3, b4⟩ := ih n' (t + 1) (tkup g 225 t (-1)) (by omega) (by omega)
    refine ⟨hf, fun q e => by rw [b1 q e, up_a e], fun x h2 h3 => ?_, fun x hx => by rw [b3 x (by omega), up_i (by omega)], b4⟩
    by_cases e : x = t
    · rw [b3 x (by omega), e, up_s]
    · exact b2 x (by omega) h3
theorem pairs_both {h : tkH} {f : Nat → Int32} (r : XR h 1 f) (v : Vd f) {a b : Nat} (ha : a < cN f) (hb : b < cN f) : ∃ (mt : Nat → Option Nat) (hx : tkH), (∀ y q, mt y = some q → y < to_ f a - fr f a ∧ q < to_ f b - fr f b) ∧ XF h hx ∧ f_X2_pairTales h 192 1 (nI a) (nI b) = some (193, hx) ∧ (∀ x, x < to_ f a - fr f a → hx 200 x = eS (mt x)) ∧ RW hx 194 f a (fr f a) (to_ f a - fr f a) (torn f a) ∧ RW hx 196 f b (fr f b) (to_ f b - fr f b) (torn f b) ∧ ∀ g, g 218 = f → ∃ hf, MF g hf ∧ (∀ x, x < 10 → hf 225 x = eM (fr f a) (fr f b) mt x) ∧ f_X9_findPairs g 217 (nI a) (nI b) = some hf := by
  have la := (v.l ha).2
  have lb := (v.l hb).2
  have ra := fr_le (f := f) (t := a)
  have rb := fr_le (f := f) (t := b)
  have l200 : ln 200 = 10 := by simp only [LN]
  obtain ⟨hL, hk⟩ := cst_le v ha hb
  have hg0 := cst_g v ha hb
  have hV := XV.of v ha hb
  obtain ⟨h1, a1, a2, a3⟩ := x_layTales r v ha hb
  obtain ⟨x1, x2, x3, x4, x5⟩ := a2
  have mv := MV.of v ha hb
  have cm : ∀ g : tkH, g 218 = f → ∃ hf, MG g hf ∧ MS hf a (fr f a) (to_ f a) (torn f a) b (fr f b) (to_ f b) (torn f b) ∧ hf 217 17 = nI (cst f a b).2 ∧ f_X9_costOf g 217 (nI a) (nI b) = some (nI (cst f a b).1, hf) := fun g e => by
    obtain ⟨g1, b1, b2, b3, b4⟩ := m_costOfG (h := g) (a := a) (b := b) (by rw [e]; exact v) (by rw [e]; exact ha) (by rw [e]; exact hb)
    rw [e] at b2 b3 b4
    exact ⟨g1, b1, b2, b3, b4⟩
  generalize hLL : (cst f a b).1 = L at *
  generalize hkk : (cst f a b).2 = k at *
  obtain ⟨na, ena⟩ : ∃ na, to_ f a = fr f a + na := ⟨to_ f a - fr f a, by omega⟩
  obtain ⟨nb, enb⟩ : ∃ nb, to_ f b = fr f b + nb := ⟨to_ f b - fr f b, by omega⟩
  have sa : fr f a + na - fr f a = na := by omega
  have sb : fr f b + nb - fr f b = nb := by omega
  rw [ena, enb] at hg0 hV mv cm ⊢
  rw [sa, sb] at hg0 hV ⊢
  rw [ena, sa] at x1
  rw [enb, sb] at x2
  rw [ena] at ra
  rw [enb] at rb
  have h0 : xR f a (fr f a + na) (torn f a) b (fr f b + nb) (torn f b) k (na - 0) (nb - 0) = L := hg0
  have hF := wk_f (a := a) (fa := fr f a) (na := na) (b := b) (fb := fr f b) (nb := nb) (k := k) (ta := torn f a) (tb := torn f b) v (by omega) (by omega) hL
  obtain ⟨h2, c1, c2, c3⟩ := x_carrySteps hk v ha (show fr f a + na ≤ cL f a by omega) x1
  have S2 : XS h2 f k a (fr f a) na (torn f a) b (fr f b) nb (torn f b) := by
    refine ⟨?_, c2, x1.keep (c1 194 (by decide)) (c1 195 (by decide)), x2.keep (c1 196 (by decide)) (c1 197 (by decide))⟩
    unfold XP
    rw [c1 193 (by decide)]
    exact x3
  obtain ⟨h3, w, d1, d2, d3⟩ := x_fillRests (B := 1000000) hV hk (by decide) S2
  have T3 : TX_ h3 f a (fr f a) na (torn f a) b (fr f b) nb (torn f b) k 0 := by
    rcases d2 with d2 | d2
    · exact d2.2
    · have := xR_le (a := a) (ea := fr f a + na) (b := b) (eb := fr f b + nb) (k := k) (x := na) (y := nb) (ta := torn f a) (tb := torn f b) v (by omega) (by omega)
      have := d2.2
      omega
  have S3 := S2.bc d1
  have hX := wk_x (L := L) hV hk S3 T3 (by rw [d1 193 (by decide), c1 193 (by decide)]; exact x4)
  obtain ⟨h4, e1, e2, e3⟩ := x_fillA (g := h3) (a := 200) (x := -1) (by omega)
  obtain ⟨mt, m1, m2, m3⟩ := walk0 (fa := fr f a) (fb := fr f b) hF hX (by omega) (by omega) h0
  obtain ⟨h5, f1, f2, f3⟩ := m2 FU h4 (FU_gt (by decide)) e1 (fun x hx => e2 x (by omega))
  have E5 : ∀ q, q ≠ 198 → q ≠ 199 → q ≠ 200 → h5 q = h1 q := fun q z1 z2 z3 => by rw [f1 q z3, e1 q z3, d1 q z2, c1 q z1]
  refine ⟨mt, h5, m1, fun q z => by rw [E5 q (by omega) (by omega) (by omega), a1 q z], ?_, f2, x1.keep (E5 194 (by decide) (by decide) (by decide)) (E5 195 (by decide) (by decide) (by decide)), x2.keep (E5 196 (by decide) (by decide) (by decide)) (E5 197 (by decide) (by decide) (by decide)), fun g e => ?_⟩
  · have fp : f_X4_findPairs h1 193 = some h5 := by
      unfold f_X4_findPairs
      obtain ⟨⟨-, -, -, t4⟩, -, t6⟩ := hX h4 e1
      have ep : f_X4_endPrice h4 193 0 0 = some (nI (me f (torn f a) (torn f b) (na - 0) (nb - 0)), h4) := (t6 0 0 (Nat.zero_le _) (Nat.zero_le _)).1
      have le := eq_le (v.q (j := 2) (by decide)).2 (torn f a) (torn f b) (x := na - 0) (y := nb - 0) (by omega) (by omega)
      have le' : me f (torn f a) (torn f b) (na - 0) (nb - 0) ≤ 180 := le
      rw [x5, c3, ob, nl1000000, d3, ob]
      simp only []
      rw [show fld 193 4 = 200 by simp only [FL], e3, ob, ep, ob]
      simp only []
      rw [t4, nI_inj_if (by omega) (by omega)]
      unfold f_X4_findPairs_J50
      by_cases q : me f (torn f a) (torn f b) (na - 0) (nb - 0) = L
      · rw [if_pos q]
        rw [bI_t q] at f3
        exact f3
      · rw [if_neg q]
        rw [bI_f q] at f3
        exact f3
    unfold f_X2_pairTales
    rw [a3, ob, show gk (193, h1).1 7 = some () from by unfold gk; rw [if_pos KD.2], ob, show fld 192 0 = 193 by simp only [FL]]
    simp only []
    rw [fp, ob]
  · obtain ⟨g1, b1, b2, b3, b4⟩ := cm g e
    have eg1 : g1 218 = f := b1.f.trans e
    obtain ⟨g2, j1, j2, j3, j4⟩ := m_layBy (h := g1) hk (by omega) (by omega) b2 (by rw [eg1]; exact mv)
    rw [eg1] at j3 j4
    rw [show fr f a + na - fr f a = na by omega, show fr f b + nb - fr f b = nb by omega, hg0] at j4
    have hM := wk_m (gm := g2) (f := f) ((j1 218 (by decide) (by decide)).trans eg1) hk mv (b2.bc (j1 217 (by decide) (by decide))) j2 j3
    obtain ⟨g3, n1, n2, n3, n4⟩ := m_m19 (kx := fun gz40 => (f_X9_pairsLeft gz40 217 (gz40 217 9) (gz40 217 13)).bind fun x57 => if x57.1 = nI L then (f_X9_findPairs_J69 217 gz40 (nI L, g2) x57.2 1) else (f_X9_findPairs_J69 217 gz40 (nI L, g2) x57.2 0)) 10 FU 0 g2 (by omega) (FU_gt (by omega))
    obtain ⟨hf, o1, o2, o3⟩ := m3 g2 FU g3 hM (FU_gt (by decide)) n1 (fun x hx => n2 x (Nat.zero_le _) hx)
    have e217 : g3 217 = g1 217 := (n1 217 (by decide)).trans (j1 217 (by decide) (by decide))
    have E : ∀ q, q ≠ 217 → q ≠ 223 → q ≠ 224 → q ≠ 225 → hf q = g1 q := fun q z1 z2 z3 z4 => by rw [o1 q z4, n1 q z4, j1 q z2 z3]
    refine ⟨hf, ⟨fun q hq => by rw [E q (by omega) (by omega) (by omega) (by omega), b1.1 q (by omega)], by rw [o1 217 (by decide), e217, b1.2 2 (by decide)], by rw [o1 217 (by decide), e217, b1.2 3 (by decide)]⟩, o2, ?_⟩
    unfold f_X9_findPairs
    rw [b4, ob]
    simp only []
    rw [b3, j4, ob]
    refine n4.trans ?_
    obtain ⟨-, -, s6⟩ := hM g3 n1
    obtain ⟨s7, s8, s9⟩ := s6 0 0 (Nat.zero_le _) (Nat.zero_le _)
    have q9 : g3 217 9 = nI (fr f a) := by rw [e217]; exact b2.2.1
    have q13 : g3 217 13 = nI (fr f b) := by rw [e217]; exact b2.2.2.2.2.2.1
    have p1 : f_X9_pairsLeft g3 217 (nI (fr f a)) (nI (fr f b)) = some (nI (mW f a (fr f a + na) (torn f a) b (fr f b + nb) (torn f b) k (na - 0) (nb - 0)), g3) := s8
    have p2 : f_X9_endCost g3 217 (nI (fr f a)) (nI (fr f b)) = some (nI (me f (torn f a) (torn f b) (na - 0) (nb - 0)), g3) := s7
    have lw : mW f a (fr f a + na) (torn f a) b (fr f b + nb) (torn f b) k (na - 0) (nb - 0) < 2 ^ 31 := Nat.lt_of_le_of_lt (mW_le _ _) (by decide)
    have le := eq_le (v.q (j := 2) (by decide)).2 (torn f a) (torn f b) (x := na - 0) (y := nb - 0) (by omega) (by omega)
    have le' : me f (torn f a) (torn f b) (na - 0) (nb - 0) ≤ 180 := le
    show (f_X9_pairsLeft g3 217 (g3 217 9) (g3 217 13)).bind _ = _
    unfold f_X9_findPairs_J69 f_X9_findPairs_J88
    rw [q9, q13, p1, ob]
    simp only []
    rw [p2, nI_inj_if lw (by omega)]
    by_cases q : mW f a (fr f a + na) (torn f a) b (fr f b + nb) (torn f b) k (na - 0) (nb - 0) = L
    · rw [if_pos q, ob]
      simp only []
      rw [bI_t q] at o3
      rw [nI_inj_if (by omega) (by omega)]
      by_cases q2 : me f (torn f a) (torn f b) (na - 0) (nb - 0) = L
      · rw [if_pos q2]
        rw [bI_t q2] at o3
        exact o3
      · rw [if_neg q2]
        rw [bI_f q2] at o3
        exact o3
    · rw [if_neg q, ob]
      simp only []
      rw [bI_f q] at o3
      rw [nI_inj_if (by omega) (by omega)]
      by_cases q2 : me f (torn f a) (torn f b) (na - 0) (nb - 0) = L
      · rw [if_pos q2]
        rw [bI_t q2] at o3
        exact o3
      · rw [if_neg q2]
        rw [bI_f q2] at o3
        exact o3
