/-! copy -/
theorem sub_lt {L i m : Nat} (hL : L ≤ 30) (hi : i < 2 ^ 31) (hm : m < 2 ^ 31) : (nI L - nI i < nI m) ↔ L < i + m := by
  rw [Int32.lt_iff_toInt_lt, Int32.toInt_sub, nI_toInt (by omega), nI_toInt hi, nI_toInt hm, Int.bmod_eq_of_le (by omega) (by omega)]
  omega
theorem lgs {L i m : Nat} (hL : L < 2 ^ 31) (hi : i < 2 ^ 31) (hm : m < 2 ^ 31) : ((Int32.toInt64 (nI i) + Int32.toInt64 (nI m)) ≤ Int32.toInt64 (nI L)) ↔ i + m ≤ L := by
  have e : (lN (i + m)).toInt = ((i + m : Nat) : Int) := lg_ofNat_toInt (by omega)
  rw [nI_l hi, nI_l hm, nI_l hL, lN_add, Int64.le_iff_toInt_le, e, lN_toInt hL]
  omega
theorem lgs2 {L i m : Nat} (hL : L < 2 ^ 31) (hi : i < 2 ^ 31) (hm : m < 2 ^ 31) : (Int32.toInt64 (nI L) < (Int32.toInt64 (nI i) + Int32.toInt64 (nI m))) ↔ L < i + m := by
  have e : (lN (i + m)).toInt = ((i + m : Nat) : Int) := lg_ofNat_toInt (by omega)
  rw [nI_l hi, nI_l hm, nI_l hL, lN_add, Int64.lt_iff_toInt_lt, e, lN_toInt hL]
  omega
def hld (L : Nat) (p c : Int32) : Prop := ∃ i m, i + m ≤ L ∧ p = nI i ∧ c = nI m
theorem x_holds_t {g : tkH} {b L i m : Nat} (hL : L ≤ 30) (e : g b 1 = nI L) (h : i + m ≤ L) : f_X6_holds g b (nI i) (nI m) = some (1, g) := by
  unfold f_X6_holds
  rw [if_neg (nI_pos (by omega)), if_neg (nI_pos (by omega)), e, if_neg (by rw [sub_lt hL (by omega) (by omega)]; omega)]
theorem x_holds_f {g : tkH} {b L : Nat} {p c : Int32} (hL : L ≤ 30) (e : g b 1 = nI L) (h : ¬ hld L p c) : f_X6_holds g b p c = some (0, g) := by
  unfold f_X6_holds
  by_cases p0 : p < 0
  · rw [if_pos p0]
  · rw [if_neg p0]
    by_cases c0 : c < 0
    · rw [if_pos c0]
    · obtain ⟨i, hi, rfl⟩ := nI_of p0
      obtain ⟨m, hm, rfl⟩ := nI_of c0
      rw [if_neg c0, e, if_pos (by rw [sub_lt hL hi hm]; exact Nat.lt_of_not_le (fun q => h ⟨i, m, q, rfl, rfl⟩))]
theorem m_cpA {s i m : Nat} (hs : s < 4) (hm : i + m ≤ 30) {kx : tkH → Option (Int32 × tkH)} : ∀ (k n y : Nat) (g : tkH), k + y = m → k < n → ∃ hf, BC 229 g hf ∧ (∀ x, y ≤ x → x < m → hf 229 x = g 222 (30 * s + i + x)) ∧ (∀ x, x < y → hf 229 x = g 229 x) ∧ f_X9_copy_L127 (nI m) 217 (nI s) (nI i) kx n g (nI y) = kx hf := by
  obtain ⟨m4, m5, m6, m28, l0, l1, l2⟩ := fM
  have l9 : ln 229 = 30 := by simp only [LN]
  intro k
  induction k with
  | zero =>
    intro n y g hy hn
    obtain ⟨n', rfl⟩ : ∃ n', n = n' + 1 := ⟨n - 1, by omega⟩
    refine ⟨g, BC.rf, fun x h1 h2 => by omega, fun _ _ => rfl, ?_⟩
    rw [f_X9_copy_L127_s, if_pos (by rw [nI_leI (by omega) (by omega)]; omega)]
  | succ k ih =>
    intro n y g hy hn
    obtain ⟨n', rfl⟩ : ∃ n', n = n' + 1 := ⟨n - 1, by omega⟩
    obtain ⟨hf, d1, d2, d3, d4⟩ := ih n' (y + 1) (tkup g 229 y (g 222 (30 * s + i + y))) (by omega) (by omega)
    refine ⟨hf, BC.up.tr d1, fun x h1 h2 => ?_, fun x hx => by rw [d3 x (by omega), up_i (by omega)], ?_⟩
    · by_cases e : x = y
      · rw [d3 x (by omega), e, up_s]
      · rw [d2 x (by omega) h2, up_a (by omega)]
    · rw [f_X9_copy_L127_s, if_neg (by rw [nI_leI (by omega) (by omega)]; omega), m6, m28, nl30, pk_mul, nI_add, nI_add, rdI_n (by omega) (by omega), ob, wrI_n (by omega) (by omega), ob, nI_1]
      exact d4
theorem m_cpB {s i m : Nat} (hs : s < 4) (hm : i + m ≤ 30) : ∀ (k n y : Nat) (g : tkH), k + y = m → k < n → ∃ hf, BC 222 g hf ∧ (∀ x, 30 * s + i + y ≤ x → x < 30 * s + i + m → hf 222 x = g 229 (x - (30 * s + i))) ∧ (∀ x, ¬ (30 * s + i + y ≤ x ∧ x < 30 * s + i + m) → hf 222 x = g 222 x) ∧ f_X9_copy_L164 (nI m) 217 (nI s) (nI i) n g (nI y) = some (nI m, hf) := by
  obtain ⟨m4, m5, m6, m28, l0, l1, l2⟩ := fM
  have l9 : ln 229 = 30 := by simp only [LN]
  intro k
  induction k with
  | zero =>
    intro n y g hy hn
    obtain ⟨n', rfl⟩ : ∃ n', n = n' + 1 := ⟨n - 1, by omega⟩
    refine ⟨g, BC.rf, fun x h1 h2 => by omega, fun _ _ => rfl, ?_⟩
    rw [f_X9_copy_L164_s, if_pos (by rw [nI_leI (by omega) (by omega)]; omega)]
  | succ k ih =>
    intro n y g hy hn
    obtain ⟨n', rfl⟩ : ∃ n', n = n' + 1 := ⟨n - 1, by omega⟩
    obtain ⟨hf, d1, d2, d3, d4⟩ := ih n' (y + 1) (tkup g 222 (30 * s + i + y) (g 229 y)) (by omega) (by omega)
    refine ⟨hf, BC.up.tr d1, fun x h1 h2 => ?_, fun x hx => by rw [d3 x (by omega), up_i (by omega)], ?_⟩
    · by_cases e : x = 30 * s + i + y
      · rw [d3 x (by omega), e, up_s, show 30 * s + i + y - (30 * s + i) = y by omega]
      · rw [d2 x (by omega) h2, up_a (by omega)]
    · rw [f_X9_copy_L164_s, if_neg (by rw [nI_leI (by omega) (by omega)]; omega), m6, m28, rdI_n (by omega) (by omega), ob, nl30, pk_mul, nI_add, nI_add, wrI_n (by omega) (by omega), ob, nI_1]
      exact d4
theorem op_copy {h : tkH} (I : Inv h) (a b c d e : Int32) : OP (f_X8_copy h 0 a b c d e) (fun g => f_X9_copy g 217 a b c d e) := by
  obtain ⟨m4, m5, m6, m28, l0, l1, l2⟩ := fM
  by_cases ha : ∃ s, s < 4 ∧ a = nI s
  · obtain ⟨s, hs, rfl⟩ := ha
    by_cases hc : ∃ s, s < 4 ∧ c = nI s
    · obtain ⟨t, ht, rfl⟩ := hc
      obtain ⟨a1, a2, a3⟩ := RA9 hs
      obtain ⟨b1, b2, b3⟩ := RA9 ht
      obtain ⟨s1, s2, s3, s4, s5⟩ := I.2.2.2.2.2 s hs
      obtain ⟨t1, t2, t3, t4, t5⟩ := I.2.2.2.2.2 t ht
      by_cases z1 : h 220 s = 0
      · refine OP.f0 (c := -100002) I ?_ (fun g q => ?_)
        · unfold f_X8_copy f_X8_copy_J47
          rw [nl4, x_in hs (by decide)]
          simp only [ob, i1f, eq_self, if_true, if_false]
          rw [x_in ht (by decide)]
          simp only [ob, i1f, eq_self, if_true, if_false]
          rw [f00.2.2.2.2.2, a1, ob, x_missing, s1, if_pos z1]
          simp only [ob, i1f, eq_self, if_true, if_false]
          rfl
        · show f_X9_copy g 217 (nI s) b (nI t) d e = _
          unfold f_X9_copy f_X9_copy_J39
          rw [m_isSheet_t hs]
          simp only [ob, i1f, eq_self, if_true, if_false]
          rw [m_isSheet_t ht]
          simp only [ob, i1f, eq_self, if_true, if_false]
          rw [m4, (r22 hs).1, ob, q 220 (by decide), if_pos z1]
          rfl
      · by_cases z2 : h 220 t = 0
        · refine OP.f0 (c := -100002) I ?_ (fun g q => ?_)
          · unfold f_X8_copy f_X8_copy_J47
            rw [nl4, x_in hs (by decide)]
            simp only [ob, i1f, eq_self, if_true, if_false]
            rw [x_in ht (by decide)]
            simp only [ob, i1f, eq_self, if_true, if_false]
            rw [f00.2.2.2.2.2, a1, ob, x_missing, s1, if_neg z1]
            simp only [ob, i1f, eq_self, if_true, if_false]
            rw [b1, ob, x_missing, t1, if_pos z2]
            simp only [ob, i1f, eq_self, if_true, if_false]
            rfl
          · show f_X9_copy g 217 (nI s) b (nI t) d e = _
            unfold f_X9_copy f_X9_copy_J39
            rw [m_isSheet_t hs]
            simp only [ob, i1f, eq_self, if_true, if_false]
            rw [m_isSheet_t ht]
            simp only [ob, i1f, eq_self, if_true, if_false]
            rw [m4, (r22 hs).1, ob, q 220 (by decide), if_neg z1, (r22 ht).1, ob, q 220 (by decide), if_pos z2]
            rfl
        · have hX : f_X8_copy h 0 (nI s) b (nI t) d e = if h 220 s = h 220 t then ((f_X6_holds h (209 + 2 * s) b e).bind fun x91 => if x91.1 = 0 then (f_X8_copy_J113 0 x91.2) else ((f_X6_holds x91.2 (209 + 2 * t) d e).bind fun x107 => if x107.1 = 0 then (f_X8_copy_J113 0 x107.2) else ((cpI x107.2 (210 + 2 * s) b (210 + 2 * t) d e).bind fun h143 => some (e, h143)))) else some (-100004, tkup h 0 6 (h 0 6 + 1)) := by
            unfold f_X8_copy
            rw [nl4, x_in hs (by decide)]
            simp only [ob, i1f, eq_self, if_true, if_false]
            rw [x_in ht (by decide)]
            simp only [ob, i1f, eq_self, if_true, if_false]
            rw [f00.2.2.2.2.2, a1, ob, x_missing, s1, if_neg z1]
            simp only [ob, i1f, eq_self, if_true, if_false]
            rw [b1, ob, x_missing, t1, if_neg z2]
            simp only [ob, i1f, eq_self, if_true, if_false]
            rw [s1, t1, a2, b2]
            rfl
          have hM : ∀ g : tkH, g 220 = h 220 → f_X9_copy g 217 (nI s) b (nI t) d e = if h 220 s = h 220 t then (if b < 0 then (f_X9_copy_J117 217 g) else (if d < 0 then (f_X9_copy_J117 217 g) else (if e < 0 then (f_X9_copy_J117 217 g) else (if 0 < (lg_cmp ((Int32.toInt64 b) + (Int32.toInt64 e)) (Int32.toInt64 (g 221 s))) then (f_X9_copy_J117 217 g) else (if (lg_cmp ((Int32.toInt64 d) + (Int32.toInt64 e)) (Int32.toInt64 (g 221 t))) ≤ 0 then (f_X9_copy_L127 e 217 (nI s) b (fun gz161 => f_X9_copy_L164 e 217 (nI t) d FU gz161 0) FU g 0) else (f_X9_copy_J117 217 g)))))) else some (-100004, tkup g 217 3 (g 217 3 + 1)) := by
            intro g q
            unfold f_X9_copy
            rw [m_isSheet_t hs]
            simp only [ob, i1f, eq_self, if_true, if_false]
            rw [m_isSheet_t ht]
            simp only [ob, i1f, eq_self, if_true, if_false]
            rw [m4, m5, (r22 hs).1, ob, q, if_neg z1, (r22 ht).1, ob, q, if_neg z2, ob, ob, (r22 hs).2, ob, (r22 ht).2, ob]
            rfl
          by_cases zb : h 220 s = h 220 t
          · have L1 := s4.2
            have L2 := t4.2
            have e1 : h (209 + 2 * s) 1 = nI (h 221 s).toNatClampNeg := by rw [s2]; exact s4.1
            have e2 : h (209 + 2 * t) 1 = nI (h 221 t).toNatClampNeg := by rw [t2]; exact t4.1
            by_cases ok : ∃ i j m, i + m ≤ (h 221 s).toNatClampNeg ∧ j + m ≤ (h 221 t).toNatClampNeg ∧ b = nI i ∧ d = nI j ∧ e = nI m
            · obtain ⟨i, j, m, o1, o2, rfl, rfl, rfl⟩ := ok
              have cp : cpI h (210 + 2 * s) (nI i) (210 + 2 * t) (nI j) (nI m) = some (tkcp h (210 + 2 * s) i (210 + 2 * t) j m) := cpI_n (by omega) (by omega) (by omega) (by omega)
              have K : ∀ q, q ≠ 210 + 2 * t → tkcp h (210 + 2 * s) i (210 + 2 * t) j m q = h q := fun q hq => cp_a hq
              obtain ⟨g1, c1, c2, c3, c4⟩ := m_cpA (s := s) (i := i) (m := m) hs (by omega) (kx := fun gz161 => f_X9_copy_L164 (nI m) 217 (nI t) (nI j) FU gz161 0) m FU 0 (tkcp h (210 + 2 * s) i (210 + 2 * t) j m) (by omega) (FU_gt (by omega))
              obtain ⟨g2, d1, d2, d3, d4⟩ := m_cpB (s := t) (i := j) (m := m) ht (by omega) m FU 0 g1 (by omega) (FU_gt (by omega))
              have E : ∀ q, q ≠ 229 → q ≠ 222 → g2 q = tkcp h (210 + 2 * s) i (210 + 2 * t) j m q := fun q q1 q2 => by rw [d1 q q2, c1 q q1]
              refine ⟨nI m, tkcp h (210 + 2 * s) i (210 + 2 * t) j m, g2, ?_, ?_, ?_⟩
              · rw [hX, if_pos zb, x_holds_t (by omega) e1 o1, ob]
                simp only [i1f, if_false]
                rw [x_holds_t (by omega) e2 o2, ob]
                simp only [i1f, if_false]
                rw [cp, ob]
              · show f_X9_copy _ 217 (nI s) (nI i) (nI t) (nI j) (nI m) = _
                rw [hM _ (K 220 (by omega)), if_pos zb, if_neg (nI_pos (by omega)), if_neg (nI_pos (by omega)), if_neg (nI_pos (by omega)), K 221 (by omega), s4.1, t4.1, if_neg (by rw [lg_cmp_gt, lgs2 (by omega) (by omega) (by omega)]; omega), if_pos (by rw [lg_cmp_le, lgs (by omega) (by omega) (by omega)]; omega)]
                exact Eq.trans c4 d4
              · refine I.sh (fun q hq => by rw [E q (by omega) (by omega), K q (by omega)]) (fun u hu => ?_)
                obtain ⟨u1, u2, u3, u4, u5⟩ := I.2.2.2.2.2 u hu
                have lu := u4.2
                unfold Sh1
                rw [E 220 (by omega) (by omega), E 221 (by omega) (by omega), E (209 + 2 * u) (by omega) (by omega), E (210 + 2 * u) (by omega) (by omega), K 220 (by omega), K 221 (by omega), K (209 + 2 * u) (by omega)]
                refine ⟨u1, u2, u3, u4, fun k hk => ?_⟩
                by_cases eu : u = t
                · subst eu
                  by_cases ek : j ≤ k ∧ k < j + m
                  · rw [cp_in ek.1 ek.2, d2 _ (by omega) (by omega), c2 _ (by omega) (by omega), K 222 (by omega), ← zb]
                    obtain ⟨w, w1, w2⟩ := s5 (i + (k - j)) (by omega)
                    exact ⟨w, w1, by rw [← w2, show 30 * s + i + (30 * u + k - (30 * u + j)) = 30 * s + (i + (k - j)) by omega]⟩
                  · rw [cp_out (by omega), d3 _ (by omega), c1 222 (by omega), K 222 (by omega)]
                    exact u5 k hk
                · rw [K (210 + 2 * u) (by omega), d3 _ (by omega), c1 222 (by omega), K 222 (by omega)]
                  exact u5 k hk
            · refine OP.f0 (c := -100001) I ?_ (fun g q => ?_)
              · rw [hX, if_pos zb]
                unfold f_X8_copy_J113
                by_cases o1 : hld (h 221 s).toNatClampNeg b e
                · obtain ⟨i, m, o1, rfl, rfl⟩ := o1
                  rw [x_holds_t (by omega) e1 o1, ob]
                  simp only [i1f, if_false]
                  rw [x_holds_f (by omega) e2 (fun ⟨j, m', p1, p2, p3⟩ => ok ⟨i, j, m, o1, by
                    by_cases mm : m' < 2 ^ 31
                    · rw [(nI_eq (by omega) mm).mp p3]; exact p1
                    · omega, rfl, p2, rfl⟩), ob]
                  simp only [eq_self, if_true]
                  rfl
                · rw [x_holds_f (by omega) e1 o1, ob]
                  simp only [eq_self, if_true]
                  rfl
              · show f_X9_copy g 217 (nI s) b (nI t) d e = _
                rw [hM g (q 220 (by decide)), if_pos zb, q 221 (by decide)]
                unfold f_X9_copy_J117
                by_cases p1 : b < 0
                · rw [if_pos p1]
                  rfl
                · rw [if_neg p1]
                  by_cases p2 : d < 0
                  · rw [if_pos p2]
                    rfl
                  · rw [if_neg p2]
                    by_cases p3 : e < 0
                    · rw [if_pos p3]
                      rfl
                    · rw [if_neg p3]
                      obtain ⟨i, hi, rfl⟩ := nI_of p1
                      obtain ⟨j, hj, rfl⟩ := nI_of p2
                      obtain ⟨m, hm, rfl⟩ := nI_of p3
                      rw [s4.1, t4.1]
                      by_cases o1 : i + m ≤ (h 221 s).toNatClampNeg
                      · rw [if_neg (by rw [lg_cmp_gt, lgs2 (by omega) hi hm]; omega), if_neg (by rw [lg_cmp_le, lgs (by omega) hj hm]; exact fun o2 => ok ⟨i, j, m, o1, o2, rfl, rfl, rfl⟩)]
                        rfl
                      · rw [if_pos (by rw [lg_cmp_gt, lgs2 (by omega) hi hm]; omega)]
                        rfl
          · refine OP.f0 (c := -100004) I (by rw [hX, if_neg zb]) (fun g q => ?_)
            show f_X9_copy g 217 (nI s) b (nI t) d e = _
            rw [hM g (q 220 (by decide)), if_neg zb]
    · refine OP.f0 (c := -100001) I ?_ (fun g q => ?_)
      · unfold f_X8_copy f_X8_copy_J16
        rw [nl4, x_in hs (by decide)]
        simp only [ob, i1f, eq_self, if_true, if_false]
        rw [x_out hc (by decide)]
        simp only [ob, i1f, eq_self, if_true, if_false]
        rfl
      · show f_X9_copy g 217 (nI s) b c d e = _
        unfold f_X9_copy f_X9_copy_J14
        rw [m_isSheet_t hs]
        simp only [ob, i1f, eq_self, if_true, if_false]
        rw [m_isSheet_f hc]
        simp only [ob, i1f, eq_self, if_true, if_false]
        rfl
  · refine OP.f0 (c := -100001) I ?_ (fun g q => ?_)
    · unfold f_X8_copy f_X8_copy_J16
      rw [nl4, x_out ha (by decide)]
      simp only [ob, i1f, eq_self, if_true, if_false]
      rfl
    · show f_X9_copy g 217 a b c d e = _
      unfold f_X9_copy f_X9_copy_J14
      rw [m_isSheet_f ha]
      simp only [ob, i1f, eq_self, if_true, if_false]
      rfl
