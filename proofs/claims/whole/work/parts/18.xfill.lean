/-! the class: pairPrice, endPrice, fillRests -/
def XP (h : tkH) (f : Nat → Int32) : Prop := h 193 5 = nI (cQ f 0) ∧ h 193 6 = nI (cQ f 1) ∧ h 193 7 = nI (cQ f 2)
def XC (h : tkH) (f : Nat → Int32) (k a fa na : Nat) : Prop := ∀ x, x < na → h 198 x = nI (cc_ f k a (fa + x))
theorem x_pairPrice {h : tkH} {f : Nat → Int32} {a fa na b fb nb k i j : Nat} {tb : Bool} (v : Vd f) (ha : a < cN f) (hb : b < cN f) (hna : fa + na ≤ cL f a) (hnb : fb + nb ≤ cL f b) (hk : k < 24) (hP : XP h f) (hC : XC h f k a fa na) (hB : RW h 196 f b fb nb tb) (hi : i < na) (hj : j < nb) :
    f_X4_pairPrice h 193 (nI i) (nI j) = some (nI (pq (cQ f 0) (cQ f 1) k (cS f a) (cS f b) (fa + i) (fb + j)), h) := by
  have l := v.l ha
  have l2 := v.l hb
  have q0 := (v.q (j := 0) (by decide)).2
  have q1 := (v.q (j := 1) (by decide)).2
  unfold f_X4_pairPrice
  simp only [FL]
  rw [rdI_n (by simp only [LN]; omega) (by simp only [LN]; decide), hC i hi]
  simp only [Option.bind_some]
  rw [rdI_n (by simp only [LN]; omega) (by simp only [LN]; decide), hB.2.2 j hj]
  simp only [Option.bind_some]
  have a0 := (v.s0 ha (i := fa + i) (by omega)).2
  have a1 := (v.s1 ha (i := fa + i) (by omega)).2
  have a2 := (v.s2 ha (i := fa + i) (by omega)).2
  have b0 := (v.s0 hb (i := fb + j) (by omega)).2
  have b1 := (v.s1 hb (i := fb + j) (by omega)).2
  have b2 := (v.s2 hb (i := fb + j) (by omega)).2
  have m1 := (pm_ok hk (r := cS f a (fa + i) 1) (by omega)).1
  have m2 := (pm_ok hk (r := cS f a (fa + i) 2) (by omega)).1
  have hx : cc_ f k a (fa + i) < 256 := by unfold cc_; omega
  have hy : sc f b (fb + j) < 256 := by unfold sc; omega
  obtain ⟨x1, x2, x3⟩ := xr_ok hx hy
  have d1 : cc_ f k a (fa + i) / 16 = cS f a (fa + i) 0 := by unfold cc_; omega
  have d2 : cc_ f k a (fa + i) / 4 % 4 = pm k (cS f a (fa + i) 1) := by unfold cc_; omega
  have d3 : cc_ f k a (fa + i) % 4 = pm k (cS f a (fa + i) 2) := by unfold cc_; omega
  have e1 : sc f b (fb + j) / 16 = cS f b (fb + j) 0 := by unfold sc; omega
  have e2 : sc f b (fb + j) / 4 % 4 = cS f b (fb + j) 1 := by unfold sc; omega
  have e3 : sc f b (fb + j) % 4 = cS f b (fb + j) 2 := by unfold sc; omega
  rw [d1, e1] at x1
  rw [d2, e2] at x2
  rw [d3, e3] at x3
  generalize cc_ f k a (fa + i) = X at *
  generalize sc f b (fb + j) = Y at *
  have hxy : X ^^^ Y < 256 := Nat.xor_lt_two_pow (n := 8) hx hy
  have t1 : ((nI X ^^^ nI Y) &&& 240 = 0) ↔ cS f a (fa + i) 0 = cS f b (fb + j) 0 := by
    rw [show (240 : Int32) = nI 240 from rfl, nx_xor, nx_and, nl0, nI_eq (Nat.lt_of_le_of_lt Nat.and_le_left (by omega)) (by decide)]
    exact x1
  have t2 : ((nI X ^^^ nI Y) &&& 12 = 0) ↔ pm k (cS f a (fa + i) 1) = cS f b (fb + j) 1 := by
    rw [show (12 : Int32) = nI 12 from rfl, nx_xor, nx_and, nl0, nI_eq (Nat.lt_of_le_of_lt Nat.and_le_left (by omega)) (by decide)]
    exact x2
  have t3 : ((nI X ^^^ nI Y) &&& 3 = 0) ↔ pm k (cS f a (fa + i) 2) = cS f b (fb + j) 2 := by
    rw [nl3, nx_xor, nx_and, nl0, nI_eq (Nat.lt_of_le_of_lt Nat.and_le_left (by omega)) (by decide)]
    exact x3
  unfold f_X4_pairPrice_J33 f_X4_pairPrice_J51
  simp only [t1, t2, t3, hP.1, hP.2.1]
  unfold pq
  rw [nl0]
  by_cases c1 : cS f a (fa + i) 0 = cS f b (fb + j) 0 <;> by_cases c2 : pm k (cS f a (fa + i) 1) = cS f b (fb + j) 1 <;> by_cases c3 : pm k (cS f a (fa + i) 2) = cS f b (fb + j) 2 <;> simp only [c1, c2, c3, if_true, if_false, nI_add, Nat.add_zero, Nat.zero_add]
theorem x_endPrice {h : tkH} {f : Nat → Int32} {a fa na b fb nb i j : Nat} {ta tb : Bool} (hP : XP h f) (hA : RW h 194 f a fa na ta) (hB : RW h 196 f b fb nb tb) (hi : i ≤ na) (hj : j ≤ nb) :
    f_X4_endPrice h 193 (nI i) (nI j) = some (nI (eq_ (cQ f 2) ta tb (na - i) (nb - j)), h) := by
  unfold f_X4_endPrice f_X4_endPrice_J28
  simp only [FL, hA.1, hA.2.1, hB.1, hB.2.1, hP.2.2, bI_0, pk_sub hi, pk_sub hj, pk_mul]
  unfold eq_
  cases ta <;> cases tb <;> simp [nl0, nI_add, Nat.mul_comm (cQ f 2), Nat.add_mul]
abbrev xR (f : Nat → Int32) (a ea : Nat) (ta : Bool) (b eb : Nat) (tb : Bool) (k : Nat) : Nat → Nat → Nat := Rr (mc f a ea b eb k) (me f ta tb) (cQ f 2)
theorem xR_le {f : Nat → Int32} {a ea b eb k x y : Nat} {ta tb : Bool} (v : Vd f) (hx : x ≤ 10) (hy : y ≤ 10) : xR f a ea ta b eb tb k x y ≤ 180 := Nat.le_trans (Rr_le_e _ _) (eq_le (v.q (j := 2) (by decide)).2 ta tb hx hy)
/-- all that fillRests looks at -/
def XS (h : tkH) (f : Nat → Int32) (k a fa na : Nat) (ta : Bool) (b fb nb : Nat) (tb : Bool) : Prop := XP h f ∧ XC h f k a fa na ∧ RW h 194 f a fa na ta ∧ RW h 196 f b fb nb tb
theorem XS.bc {h h' : tkH} {f : Nat → Int32} {k a fa na b fb nb : Nat} {ta tb : Bool} (hS : XS h f k a fa na ta b fb nb tb) (e : BC 199 h h') : XS h' f k a fa na ta b fb nb tb := by
  obtain ⟨s1, s2, s3, s4⟩ := hS
  refine ⟨?_, ?_, ?_, ?_⟩
  · unfold XP; rw [e 193 (by decide)]; exact s1
  · unfold XC; rw [e 198 (by decide)]; exact s2
  · unfold RW; rw [e 194 (by decide), e (194 + 1) (by decide)]; exact s3
  · unfold RW; rw [e 196 (by decide), e (196 + 1) (by decide)]; exact s4
def XV (f : Nat → Int32) (a fa na b fb nb : Nat) : Prop := Vd f ∧ a < cN f ∧ b < cN f ∧ fa + na ≤ cL f a ∧ fb + nb ≤ cL f b
theorem XV.b10 {f : Nat → Int32} {a fa na b fb nb : Nat} (h : XV f a fa na b fb nb) : na ≤ 10 ∧ nb ≤ 10 := by
  obtain ⟨v, h1, h2, h3, h4⟩ := h
  have := (v.l h1).2
  have := (v.l h2).2
  omega
theorem r199 {h : tkH} {k : Nat} (hk : k < 121) : rdI h 199 (nI k) = some (h 199 k) := rdI_n (by simp only [LN]; exact hk) (by simp only [LN]; decide)
theorem w199 {h : tkH} {k : Nat} {x : Int32} (hk : k < 121) : wrI h 199 (nI k) x = some (tkup h 199 k x) := wrI_n (by simp only [LN]; exact hk) (by simp only [LN]; decide)
theorem x_cell {g : tkH} {f : Nat → Int32} {a fa na b fb nb i j k n L : Nat} {ta tb : Bool} {kx : tkH → Int32 → Option (Int32 × tkH)} (hS : XS g f k a fa na ta b fb nb tb) (hV : XV f a fa na b fb nb) (hk : k < 24) (hi : i ≤ na) (hj : j ≤ nb) (hL : L < 2 ^ 31)
    (T1 : i < na → j < nb → g 199 (11 * (i + 1) + (j + 1)) = nI (xR f a (fa + na) ta b (fb + nb) tb k (na - i - 1) (nb - j - 1)))
    (T2 : i < na → g 199 (11 * (i + 1) + j) = nI (xR f a (fa + na) ta b (fb + nb) tb k (na - i - 1) (nb - j)))
    (T3 : j < nb → g 199 (11 * i + (j + 1)) = nI (xR f a (fa + na) ta b (fb + nb) tb k (na - i) (nb - j - 1))) :
    f_X4_fillRests_L24 193 (nI i) kx (n + 1) g (nI L) (nI j) = f_X4_fillRests_L24 193 (nI i) kx n (tkup g 199 (11 * i + j) (nI (xR f a (fa + na) ta b (fb + nb) tb k (na - i) (nb - j)))) (nI (min L (xR f a (fa + na) ta b (fb + nb) tb k (na - i) (nb - j)))) (nI j + (-1)) := by
  have hb := hV.b10
  obtain ⟨v, va, vb, hna, hnb⟩ := hV
  obtain ⟨sP, sC, sA, sB⟩ := hS
  have q0 := (v.q (j := 0) (by decide)).2
  have q1 := (v.q (j := 1) (by decide)).2
  have q2 := (v.q (j := 2) (by decide)).2
  have J : ∀ w : Nat, w < 2000 → f_X4_fillRests_J131 193 (nI i) (nI j) (f_X4_fillRests_L24 193 (nI i) kx n) (nI L) g (nI w) = f_X4_fillRests_L24 193 (nI i) kx n (tkup g 199 (11 * i + j) (nI w)) (nI (min L w)) (nI j + (-1)) := by
    intro w hw
    unfold f_X4_fillRests_J131
    simp only [FL, nl11, pk_mul, nI_add]
    rw [w199 (by omega), mnI_n (by omega) (by omega), Nat.mul_comm i 11]
    rfl
  rw [f_X4_fillRests_L24_s, if_neg (nI_pos (by omega)), x_endPrice sP sA sB hi hj]
  simp only [Option.bind_some, FL, sA.1, sB.1]
  have he := eq_le q2 ta tb (x := na - i) (y := nb - j) (by omega) (by omega)
  by_cases hie : i < na
  · rw [if_neg (by rw [nI_leI (by omega) (by omega)]; omega)]
    by_cases hje : j < nb
    · rw [if_neg (by rw [nI_leI (by omega) (by omega)]; omega), x_pairPrice v va vb hna hnb hk sP sC sB hie hje]
      simp only [Option.bind_some]
      rw [nl11, pk_mul, nI_add, nI_add, nI_1, nI_1, r199 (by omega), r199 (by omega), r199 (by omega)]
      simp only [Option.bind_some]
      rw [show i * 11 + j + 11 + 1 = 11 * (i + 1) + (j + 1) by omega, show i * 11 + j + 11 = 11 * (i + 1) + j by omega, show i * 11 + j + 1 = 11 * i + (j + 1) by omega, T1 hie hje, T2 hie, T3 hje, sP.2.2]
      have r1 := xR_le (a := a) (ea := fa + na) (b := b) (eb := fb + nb) (k := k) (ta := ta) (tb := tb) v (x := na - i - 1) (y := nb - j - 1) (by omega) (by omega)
      have r2 := xR_le (a := a) (ea := fa + na) (b := b) (eb := fb + nb) (k := k) (ta := ta) (tb := tb) v (x := na - i - 1) (y := nb - j) (by omega) (by omega)
      have r3 := xR_le (a := a) (ea := fa + na) (b := b) (eb := fb + nb) (k := k) (ta := ta) (tb := tb) v (x := na - i) (y := nb - j - 1) (by omega) (by omega)
      have hpq : pq (cQ f 0) (cQ f 1) k (cS f a) (cS f b) (fa + i) (fb + j) ≤ 100 := by
        unfold pq
        split <;> split <;> split <;> omega
      rw [nI_add, mnI_n (by omega) (by omega), mnI_n (by omega) (by omega), nI_add, mnI_n (by omega) (by omega), J _ (by omega)]
      have key : min (min (eq_ (cQ f 2) ta tb (na - i) (nb - j)) (pq (cQ f 0) (cQ f 1) k (cS f a) (cS f b) (fa + i) (fb + j) + xR f a (fa + na) ta b (fb + nb) tb k (na - i - 1) (nb - j - 1))) (cQ f 2 + min (xR f a (fa + na) ta b (fb + nb) tb k (na - i - 1) (nb - j)) (xR f a (fa + na) ta b (fb + nb) tb k (na - i) (nb - j - 1))) = xR f a (fa + na) ta b (fb + nb) tb k (na - i) (nb - j) := by
        obtain ⟨x, hx⟩ : ∃ x, na - i = x + 1 := ⟨na - i - 1, by omega⟩
        obtain ⟨y, hy⟩ : ∃ y, nb - j = y + 1 := ⟨nb - j - 1, by omega⟩
        have ei : fa + na - (x + 1) = fa + i := by omega
        have ej : fb + nb - (y + 1) = fb + j := by omega
        rw [hx, hy, show x + 1 - 1 = x from rfl, show y + 1 - 1 = y from rfl]
        show _ = Rr _ _ _ (x + 1) (y + 1)
        rw [Rr_ss]
        show _ = min (min _ (pq _ _ k _ _ (fa + na - (x + 1)) (fb + nb - (y + 1)) + _)) _
        rw [ei, ej]
      rw [key]
    · have hje' : j = nb := by omega
      subst hje'
      rw [if_pos (by rw [nI_leI (by omega) (by omega)]; omega), J _ (by omega)]
      rw [show j - j = 0 by omega, show xR f a (fa + na) ta b (fb + j) tb k (na - i) 0 = eq_ (cQ f 2) ta tb (na - i) 0 from Rr_x0 _]
  · have hie' : i = na := by omega
    subst hie'
    rw [if_pos (by rw [nI_leI (by omega) (by omega)]; omega), J _ (by omega)]
    rw [show i - i = 0 by omega, show xR f a (fa + i) ta b (fb + nb) tb k 0 (nb - j) = eq_ (cQ f 2) ta tb 0 (nb - j) from rfl]
def TX_ (g : tkH) (f : Nat → Int32) (a fa na : Nat) (ta : Bool) (b fb nb : Nat) (tb : Bool) (k i0 : Nat) : Prop := ∀ i j, i0 ≤ i → i ≤ na → j ≤ nb → g 199 (11 * i + j) = nI (xR f a (fa + na) ta b (fb + nb) tb k (na - i) (nb - j))
theorem x_row {f : Nat → Int32} {a fa na b fb nb i k : Nat} {ta tb : Bool} {kx : tkH → Int32 → Option (Int32 × tkH)} (hV : XV f a fa na b fb nb) (hk : k < 24) (hi : i ≤ na) : ∀ (m n L : Nat) (g : tkH), m < n → m ≤ nb + 1 → L < 2 ^ 31 → XS g f k a fa na ta b fb nb tb →
    TX_ g f a fa na ta b fb nb tb k (i + 1) → (∀ j, m ≤ j → j ≤ nb → g 199 (11 * i + j) = nI (xR f a (fa + na) ta b (fb + nb) tb k (na - i) (nb - j)) ∧ L ≤ xR f a (fa + na) ta b (fb + nb) tb k (na - i) (nb - j)) →
    ∃ hf L', BC 199 g hf ∧ TX_ hf f a fa na ta b fb nb tb k i ∧ L' ≤ L ∧ (∀ j, j ≤ nb → L' ≤ xR f a (fa + na) ta b (fb + nb) tb k (na - i) (nb - j)) ∧ f_X4_fillRests_L24 193 (nI i) kx n g (nI L) (nI m + (-1)) = kx hf (nI L') := by
  have hb := hV.b10
  intro m
  induction m with
  | zero =>
    intro n L g hn _ hL hS hT hR
    obtain ⟨n', rfl⟩ : ∃ n', n = n' + 1 := ⟨n - 1, by omega⟩
    refine ⟨g, L, BC.rf, fun i' j h1 h2 h3 => ?_, Nat.le_refl _, fun j hj => (hR j (by omega) hj).2, ?_⟩
    · by_cases e : i' = i
      · subst e
        exact (hR j (by omega) h3).1
      · exact hT i' j (by omega) h2 h3
    · rw [f_X4_fillRests_L24_s, if_pos (by decide)]
  | succ m ih =>
    intro n L g hn hm hL hS hT hR
    obtain ⟨n', rfl⟩ : ∃ n', n = n' + 1 := ⟨n - 1, by omega⟩
    rw [pk_m1]
    rw [x_cell hS hV hk hi (j := m) (by omega) hL
      (fun h1 h2 => by rw [hT (i + 1) (m + 1) (by omega) (by omega) (by omega)]; rfl)
      (fun h1 => by rw [hT (i + 1) m (by omega) (by omega) (by omega)]; rfl)
      (fun h2 => by rw [(hR (m + 1) (by omega) (by omega)).1]; rfl)]
    obtain ⟨hf, L', h1, h2, h3, h4, h5⟩ := ih n' (min L (xR f a (fa + na) ta b (fb + nb) tb k (na - i) (nb - m))) (tkup g 199 (11 * i + m) (nI (xR f a (fa + na) ta b (fb + nb) tb k (na - i) (nb - m)))) (by omega) (by omega) (by omega) (hS.bc BC.up)
      (by
        intro i' j h1 h2 h3
        rw [up_i (by omega)]
        exact hT i' j h1 h2 h3)
      (by
        intro j h1 h2
        by_cases e : j = m
        · subst e
          exact ⟨by rw [up_s], by omega⟩
        · rw [up_i (by omega)]
          have := hR j (by omega) h2
          exact ⟨this.1, by omega⟩)
    exact ⟨hf, L', BC.tr BC.up h1, h2, by omega, h4, h5⟩
theorem x_rows {f : Nat → Int32} {a fa na b fb nb k B : Nat} {ta tb : Bool} (hV : XV f a fa na b fb nb) (hk : k < 24) (hB : B < 2 ^ 31) : ∀ (m n : Nat) (g : tkH), m < n → m ≤ na + 1 → XS g f k a fa na ta b fb nb tb → TX_ g f a fa na ta b fb nb tb k m →
    ∃ hf w, BC 199 g hf ∧ ((w = xR f a (fa + na) ta b (fb + nb) tb k na nb ∧ TX_ hf f a fa na ta b fb nb tb k 0) ∨ (w = B ∧ B ≤ xR f a (fa + na) ta b (fb + nb) tb k na nb)) ∧
      f_X4_fillRests_L8 193 (nI B) (fun gz166 => (rdI gz166 (fld 193 3) 0).bind fun v171 => some (v171, gz166)) n g (nI m + (-1)) = some (nI w, hf) := by
  have hb := hV.b10
  intro m
  induction m with
  | zero =>
    intro n g hn _ hS hT
    obtain ⟨n', rfl⟩ : ∃ n', n = n' + 1 := ⟨n - 1, by omega⟩
    refine ⟨g, _, BC.rf, Or.inl ⟨rfl, hT⟩, ?_⟩
    rw [f_X4_fillRests_L8_s, if_pos (by decide)]
    simp only [FL]
    rw [nl0, r199 (by decide)]
    have := hT 0 0 (Nat.le_refl _) (by omega) (by omega)
    simp only [Option.bind_some]
    rw [show g 199 0 = g 199 (11 * 0 + 0) from rfl, this]
    rfl
  | succ m ih =>
    intro n g hn hm hS hT
    obtain ⟨n', rfl⟩ : ∃ n', n = n' + 1 := ⟨n - 1, by omega⟩
    rw [pk_m1, f_X4_fillRests_L8_s, if_neg (nI_pos (by omega))]
    simp only [FL, hS.2.2.2.1]
    obtain ⟨h1, L, a1, a2, a3, a4, a5⟩ := x_row (kx := fun gz153 z153_3 => if z153_3 < nI B then f_X4_fillRests_L8 193 (nI B) (fun gz166 => (rdI gz166 199 0).bind fun v171 => some (v171, gz166)) n' gz153 (nI m + (-1)) else some (nI B, gz153)) hV hk (i := m) (by omega) (nb + 1) FU 1000000 g (FU_gt (by omega)) (Nat.le_refl _) (by decide) hS hT (fun j g1 g2 => by omega)
    rw [pk_m1] at a5
    rw [nl1000000, a5]
    by_cases c : L < B
    · rw [if_pos (by rw [nI_ltI (by omega) hB]; exact c)]
      obtain ⟨hf, w, b1, b2, b3⟩ := ih n' h1 (by omega) (by omega) (hS.bc a1) a2
      simp only [FL] at b3
      exact ⟨hf, w, BC.tr a1 b1, b2, b3⟩
    · rw [if_neg (by rw [nI_ltI (by omega) hB]; exact c)]
      refine ⟨h1, B, a1, Or.inr ⟨rfl, ?_⟩, rfl⟩
      obtain ⟨y', h3, h4⟩ := Rr_row (c := mc f a (fa + na) b (fb + nb) k) (e := me f ta tb) (p := cQ f 2) (eqm1 _ _ _) (na - m) m nb
      have h5 := a4 (nb - y') (by omega)
      rw [show nb - (nb - y') = y' by omega] at h5
      rw [show na - m + m = na by omega] at h4
      exact Nat.le_trans (Nat.le_of_not_lt c) (Nat.le_trans h5 h4)
theorem x_fillRests {g : tkH} {f : Nat → Int32} {a fa na b fb nb k B : Nat} {ta tb : Bool} (hV : XV f a fa na b fb nb) (hk : k < 24) (hB : B < 2 ^ 31) (hS : XS g f k a fa na ta b fb nb tb) :
    ∃ hf w, BC 199 g hf ∧ ((w = xR f a (fa + na) ta b (fb + nb) tb k na nb ∧ TX_ hf f a fa na ta b fb nb tb k 0) ∨ (w = B ∧ B ≤ xR f a (fa + na) ta b (fb + nb) tb k na nb)) ∧ f_X4_fillRests g 193 (nI B) = some (nI w, hf) := by
  have hb := hV.b10
  have h := x_rows (ta := ta) (tb := tb) hV hk hB (na + 1) FU g (FU_gt (by omega)) (Nat.le_refl _) hS (fun i j h1 h2 => by omega)
  rw [pk_m1] at h
  unfold f_X4_fillRests
  rw [show fld 193 0 = 194 by simp only [FL], hS.2.2.1.1]
  exact h
