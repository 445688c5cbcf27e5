/-! sheet, put -/
theorem Inv.sh {h hf : tkH} (I : Inv h) (p : ∀ q, q < 209 ∨ (217 ≤ q ∧ q ≤ 219) → hf q = h q) (S : ∀ s, s < 4 → Sh1 hf s) : Inv hf := by
  obtain ⟨i1, i2, i3, ⟨k, nx, k1, k2, k3, k4, k5, k6⟩, i5, i6⟩ := I
  have e218 : hf 218 = h 218 := p 218 (by omega)
  refine ⟨by rw [e218]; exact i1, ?_, ?_, ⟨k, nx, k1, k2, ?_, ?_, ?_, fun j hj => ?_⟩, ?_, S⟩
  · rw [e218]
    exact i2.be i1 (BE.of_eq (fun q h1 h2 => p q (by omega)))
  · rw [p 0 (by omega), p 217 (by omega)]
    exact i3
  · rw [p 10 (by omega)]
    exact k3
  · rw [p 217 (by omega)]
    exact k4
  · rw [p 10 (by omega)]
    exact k5
  · rw [ps_eq (p 219 (by omega))]
    refine ⟨(k6 j hj).1, (k6 j hj).2.be (k6 j hj).1 (BE.of_eq (fun q h1 h2 => p q ?_))⟩
    unfold sl at h1 h2
    omega
  · rw [e218]
    exact i5.keep (p 201 (by omega))
theorem fM : fld 217 4 = 220 ∧ fld 217 5 = 221 ∧ fld 217 6 = 222 ∧ fld 217 28 = 229 ∧ ln 220 = 4 ∧ ln 221 = 4 ∧ ln 222 = 120 := by simp only [FL, LN]; decide
theorem m_isSheet_t {g : tkH} {x : Nat} (hx : x < 4) : f_X9_isSheet g (nI x) = some (1, g) := by
  unfold f_X9_isSheet
  rw [nl3, m_in (n := 3) (by omega) (by decide)]
  simp only [ob, i1f, eq_self, if_true, if_false]
  rw [bz_1]
  simp only [ob, i1f, eq_self, if_true, if_false]
theorem m_isSheet_f {g : tkH} {x : Int32} (hx : ¬ ∃ t, t < 4 ∧ x = nI t) : f_X9_isSheet g x = some (0, g) := by
  unfold f_X9_isSheet
  rw [nl3, m_out hx (by decide)]
  simp only [ob, i1f, eq_self, if_true, if_false]
  rw [bz_0]
  simp only [ob, i1f, eq_self, if_true, if_false]
theorem r22 {g : tkH} {s : Nat} (hs : s < 4) : rdI g 220 (nI s) = some (g 220 s) ∧ rdI g 221 (nI s) = some (g 221 s) := by
  obtain ⟨-, -, -, -, l0, l1, l2⟩ := fM
  exact ⟨rdI_n (by omega) (by omega), rdI_n (by omega) (by omega)⟩
theorem w222 {g : tkH} {s i : Nat} {x : Int32} (hs : s < 4) (hi : i < 30) : wrI g 222 (30 * nI s + nI i) x = some (tkup g 222 (30 * s + i) x) := by
  obtain ⟨-, -, -, -, l0, l1, l2⟩ := fM
  rw [nl30, pk_mul, nI_add, wrI_n (by omega) (by omega)]
theorem x_missing {g : tkH} {b : Nat} : f_X6_isMissing g b = some (if g b 0 = 0 then 1 else 0, g) := by
  unfold f_X6_isMissing
  by_cases c : g b 0 = 0
  · rw [if_pos c, if_pos c]
  · rw [if_neg c, if_neg c]
theorem x_write {g : tkH} {s i : Nat} {v : Int32} (hs : s < 4) (hi : i < 30) : f_X6_write g (209 + 2 * s) (nI i) v = some (tkup g (210 + 2 * s) i (wX (g (209 + 2 * s) 0) v)) := by
  obtain ⟨a1, a2, a3⟩ := RA9 hs
  have W : ∀ x, wrI g (210 + 2 * s) (nI i) x = some (tkup g (210 + 2 * s) i x) := fun x => wrI_n (by omega) (by omega)
  unfold f_X6_write f_X6_write_J39 wX
  rw [a2]
  by_cases c : g (209 + 2 * s) 0 = 8
  · rw [if_pos c, if_pos c, W, ob]
  · rw [if_neg c, if_neg c]
    by_cases d : g (209 + 2 * s) 0 = 16
    · rw [if_pos d, if_pos d, W, ob]
    · rw [if_neg d, if_neg d, W, ob]
theorem op_put {h : tkH} (I : Inv h) (a b c : Int32) : OP (f_X8_put h 0 a b c) (fun g => f_X9_put g 217 a b c) := by
  have v := I.1
  obtain ⟨m4, m5, m6, m28, l0, l1, l2⟩ := fM
  by_cases ha : ∃ s, s < 4 ∧ a = nI s
  · obtain ⟨s, hs, rfl⟩ := ha
    obtain ⟨a1, a2, a3⟩ := RA9 hs
    obtain ⟨s1, s2, s3, s4, s5⟩ := I.2.2.2.2.2 s hs
    by_cases hz : h 220 s = 0
    · refine OP.f0 (c := -100002) I ?_ (fun g e => ?_)
      · unfold f_X8_put
        rw [nl4, x_in hs (by decide)]
        simp only [ob, i1f, eq_self, if_true, if_false]
        rw [f00.2.2.2.2.2, a1, ob, x_missing, s1, if_pos hz]
        simp only [ob, i1f, eq_self, if_true, if_false]
        rfl
      · show f_X9_put g 217 (nI s) b c = _
        unfold f_X9_put
        rw [m_isSheet_t hs]
        simp only [ob, i1f, eq_self, if_true, if_false]
        rw [m4, (r22 hs).1, ob, e 220 (by decide), if_pos hz]
        rfl
    · by_cases hi : ∃ i, i < (h 221 s).toNatClampNeg ∧ b = nI i
      · obtain ⟨i, hi, rfl⟩ := hi
        have l30 := s4.2
        refine ⟨0, tkup h (210 + 2 * s) i (wX (h 220 s) c), tkup (tkup h (210 + 2 * s) i (wX (h 220 s) c)) 222 (30 * s + i) (wM (h 220 s) c), ?_, ?_, ?_⟩
        · unfold f_X8_put
          rw [nl4, x_in hs (by decide)]
          simp only [ob, i1f, eq_self, if_true, if_false]
          rw [f00.2.2.2.2.2, a1, ob, x_missing, s1, if_neg hz]
          simp only [ob, i1f, eq_self, if_true, if_false]
          rw [s2, s4.1, x_in hi (by omega)]
          simp only [ob, i1f, eq_self, if_true, if_false]
          rw [x_write hs (by omega), ob, s1]
        · show f_X9_put _ 217 (nI s) (nI i) c = _
          unfold f_X9_put
          rw [m_isSheet_t hs]
          simp only [ob, i1f, eq_self, if_true, if_false]
          rw [m4, m5, m6, (r22 hs).1, ob, up_a (by omega), if_neg hz, (r22 hs).2, ob, up_a (by omega), s4.1, m_inP hi (by omega)]
          simp only [ob, i1f, eq_self, if_true, if_false]
          rw [(r22 hs).1, ob, up_a (by omega), w222 hs (by omega), ob]
          rfl
        · refine I.sh (fun q hq => by rw [up_a (by omega), up_a (by omega)]) (fun t ht => ?_)
          obtain ⟨t1, t2, t3, t4, t5⟩ := I.2.2.2.2.2 t ht
          have e220 : tkup (tkup h (210 + 2 * s) i (wX (h 220 s) c)) 222 (30 * s + i) (wM (h 220 s) c) 220 = h 220 := by rw [up_a (by omega), up_a (by omega)]
          have e221 : tkup (tkup h (210 + 2 * s) i (wX (h 220 s) c)) 222 (30 * s + i) (wM (h 220 s) c) 221 = h 221 := by rw [up_a (by omega), up_a (by omega)]
          have eb : tkup (tkup h (210 + 2 * s) i (wX (h 220 s) c)) 222 (30 * s + i) (wM (h 220 s) c) (209 + 2 * t) = h (209 + 2 * t) := by rw [up_a (by omega), up_a (by omega)]
          unfold Sh1
          rw [e220, e221, eb]
          refine ⟨t1, t2, t3, t4, fun j hj => ?_⟩
          have t30 := t4.2
          rw [up_a (show 210 + 2 * t ≠ 222 by omega)]
          by_cases e : t = s
          · rw [e]
            by_cases e2 : j = i
            · rw [e2]
              exact ⟨c, up_s, up_s⟩
            · rw [up_i e2, up_i (show 30 * s + j ≠ 30 * s + i by omega), up_a (show 222 ≠ 210 + 2 * s by omega)]
              rw [e] at hj
              exact s5 j hj
          · rw [up_a (show 210 + 2 * t ≠ 210 + 2 * s by omega), up_i (show 30 * t + j ≠ 30 * s + i by omega), up_a (show 222 ≠ 210 + 2 * s by omega)]
            exact t5 j hj
      · refine OP.f0 (c := -100001) I ?_ (fun g e => ?_)
        · unfold f_X8_put
          rw [nl4, x_in hs (by decide)]
          simp only [ob, i1f, eq_self, if_true, if_false]
          rw [f00.2.2.2.2.2, a1, ob, x_missing, s1, if_neg hz]
          simp only [ob, i1f, eq_self, if_true, if_false]
          rw [s2, s4.1, x_out hi (by have := s4.2; omega)]
          simp only [ob, i1f, eq_self, if_true, if_false]
          rfl
        · show f_X9_put g 217 (nI s) b c = _
          unfold f_X9_put
          rw [m_isSheet_t hs]
          simp only [ob, i1f, eq_self, if_true, if_false]
          rw [m4, m5, (r22 hs).1, ob, e 220 (by decide), if_neg hz, (r22 hs).2, ob, e 221 (by decide), s4.1, m_outP hi (by have := s4.2; omega)]
          simp only [ob, i1f, eq_self, if_true, if_false]
          rfl
  · refine OP.f0 (c := -100001) I ?_ (fun g e => ?_)
    · unfold f_X8_put
      rw [nl4, x_out ha (by decide)]
      simp only [ob, i1f, eq_self, if_true, if_false]
      rfl
    · show f_X9_put g 217 a b c = _
      unfold f_X9_put
      rw [m_isSheet_f ha]
      simp only [ob, i1f, eq_self, if_true, if_false]
      rfl
theorem m_zeroL {s : Nat} (hs : s < 4) {kx : tkH → Option (Int32 × tkH)} : ∀ (m n j : Nat) (g : tkH), m + j = 30 → m < n → ∃ hf, BC 222 g hf ∧ (∀ x, 30 * s + j ≤ x → x < 30 * s + 30 → hf 222 x = 0) ∧ (∀ x, ¬ (30 * s + j ≤ x ∧ x < 30 * s + 30) → hf 222 x = g 222 x) ∧ f_X9_sheet_L85 217 (nI s) kx n g (nI j) = kx hf := by
  obtain ⟨m4, m5, m6, m28, l0, l1, l2⟩ := fM
  intro m
  induction m with
  | zero =>
    intro n j g hj hn
    obtain ⟨n', rfl⟩ : ∃ n', n = n' + 1 := ⟨n - 1, by omega⟩
    refine ⟨g, BC.rf, fun x h1 h2 => by omega, fun x _ => rfl, ?_⟩
    rw [f_X9_sheet_L85_s, if_pos (by rw [nl30, nI_leI (by omega) (by omega)]; omega)]
  | succ m ih =>
    intro n j g hj hn
    obtain ⟨n', rfl⟩ : ∃ n', n = n' + 1 := ⟨n - 1, by omega⟩
    obtain ⟨hf, d1, d2, d3, d4⟩ := ih n' (j + 1) (tkup g 222 (30 * s + j) 0) (by omega) (by omega)
    refine ⟨hf, BC.up.tr d1, fun x h1 h2 => ?_, fun x hx => ?_, ?_⟩
    · by_cases e : x = 30 * s + j
      · rw [d3 x (by omega), e, up_s]
      · exact d2 x (by omega) h2
    · rw [d3 x (by omega), up_i (by omega)]
    · rw [f_X9_sheet_L85_s, if_neg (by rw [nl30, nI_leI (by omega) (by omega)]; omega), m6, w222 hs (by omega), ob, nI_1]
      exact d4
theorem wz {b : Int32} (hb : b = 0 ∨ b = 8 ∨ b = 16 ∨ b = 32) : wX b 0 = 0 ∧ wM b 0 = 0 := by
  rcases hb with rfl | rfl | rfl | rfl <;> decide
theorem x_anew {h : tkH} {s : Nat} (hs : s < 4) (b c : Int32) : ∃ hf, (∀ q, q ≠ 209 + 2 * s → q ≠ 210 + 2 * s → hf q = h q) ∧ hf (209 + 2 * s) 0 = b ∧ hf (209 + 2 * s) 1 = (if b = 0 then 0 else c) ∧ (∀ j, j < 30 → hf (210 + 2 * s) j = 0) ∧ f_X6_makeAnew h (209 + 2 * s) b c = some hf := by
  obtain ⟨a1, a2, a3⟩ := RA9 hs
  have J : ∀ x : Int32, ∃ hf, (∀ q, q ≠ 209 + 2 * s → q ≠ 210 + 2 * s → hf q = h q) ∧ hf (209 + 2 * s) 0 = b ∧ hf (209 + 2 * s) 1 = x ∧ (∀ j, j < 30 → hf (210 + 2 * s) j = 0) ∧ f_X6_makeAnew_J15 (209 + 2 * s) (tkup h (209 + 2 * s) 0 b) x = some hf := by
    intro x
    obtain ⟨hf, b1, b2, b3⟩ := x_fillA (g := tkup (tkup h (209 + 2 * s) 0 b) (209 + 2 * s) 1 x) (a := 210 + 2 * s) (x := 0) (by omega)
    refine ⟨hf, fun q h1 h2 => by rw [b1 q h2, up_a h1, up_a h1], by rw [b1 _ (by omega), up_i (by omega), up_s], by rw [b1 _ (by omega), up_s], fun j hj => b2 j (by omega), ?_⟩
    unfold f_X6_makeAnew_J15
    rw [a2, b3, ob]
  unfold f_X6_makeAnew
  by_cases z : b = 0
  · rw [if_pos z, if_pos z]
    exact J 0
  · rw [if_neg z, if_neg z]
    exact J c
theorem sheetJ {h : tkH} (I : Inv h) {s : Nat} (hs : s < 4) {b c : Int32} (hb : b = 0 ∨ b = 8 ∨ b = 16 ∨ b = 32) {X : Option (Int32 × tkH)} {M : tkH → Option (Int32 × tkH)} (eqX : X = f_X8_sheet_J37 c 0 (nI s) b h) (eqM : ∀ g : tkH, M g = f_X9_sheet_J36 c 217 (nI s) b g) : OP X M := by
  obtain ⟨m4, m5, m6, m28, l0, l1, l2⟩ := fM
  obtain ⟨a1, a2, a3⟩ := RA9 hs
  by_cases c0 : 0 ≤ c
  · by_cases c1 : c ≤ 30
    · obtain ⟨L, hL, rfl⟩ : ∃ L, L < 31 ∧ c = nI L := in_nat (n := 31) (fun q => absurd c0 (Int32.not_le.mpr q)) (fun q => by
        have q2 : (31 : Int32) ≤ 30 := Int32.le_trans q c1
        exact absurd q2 (by decide)) (by decide)
      obtain ⟨h1, d1, d2, d3, d4, d5⟩ := x_anew (h := h) hs b (nI L)
      have W0 : ∀ (g : tkH) x, wrI g 220 (nI s) x = some (tkup g 220 s x) := fun g x => wrI_n (by omega) (by omega)
      have W1 : ∀ (g : tkH) x, wrI g 221 (nI s) x = some (tkup g 221 s x) := fun g x => wrI_n (by omega) (by omega)
      have J : ∀ x : Int32, x = (if b = 0 then 0 else nI L) → ∃ h2, (∀ q, q ≠ 220 → q ≠ 221 → q ≠ 222 → h2 q = h1 q) ∧ h2 220 = upd (h1 220) s b ∧ h2 221 = upd (h1 221) s x ∧ (∀ y, 30 * s ≤ y → y < 30 * s + 30 → h2 222 y = 0) ∧ (∀ y, ¬ (30 * s ≤ y ∧ y < 30 * s + 30) → h2 222 y = h1 222 y) ∧ f_X9_sheet_J81 217 (nI s) (tkup h1 220 s b) x = some (x, h2) := by
        intro x _
        obtain ⟨h2, e1, e2, e3, e4⟩ := m_zeroL hs (kx := fun gz111 => (rdI gz111 (fld 217 5) (nI s)).bind fun v116 => some (v116, gz111)) 30 FU 0 (tkup (tkup h1 220 s b) 221 s x) (by omega) (FU_gt (by omega))
        have u0 : h2 220 = upd (h1 220) s b := by
          rw [e1 220 (by omega), up_a (by omega)]
          funext j
          unfold upd
          by_cases z : j = s
          · rw [z, up_s, if_pos rfl]
          · rw [up_i z, if_neg z]
        have u1 : h2 221 = upd (h1 221) s x := by
          rw [e1 221 (by omega)]
          funext j
          unfold upd
          by_cases z : j = s
          · rw [z, up_s, if_pos rfl]
          · rw [up_i z, if_neg z, up_a (by omega)]
        refine ⟨h2, fun q q0 q1 q2 => by rw [e1 q q2, up_a q1, up_a q0], u0, u1, fun y y1 y2 => e2 y (by omega) y2, fun y hy => by rw [e3 y (by omega), up_a (by omega), up_a (by omega)], ?_⟩
        unfold f_X9_sheet_J81
        rw [m5, W1, ob]
        refine Eq.trans e4 ?_
        rw [m5, (r22 hs).2, ob, u1, upd_s]
      obtain ⟨h2, g1, g2, g3, g4, g5, g6⟩ := J _ rfl
      refine ⟨if b = 0 then 0 else nI L, h1, h2, ?_, ?_, ?_⟩
      · rw [eqX]
        unfold f_X8_sheet_J37
        rw [if_pos c0, if_pos c1, f00.2.2.2.2.2, a1, ob, d5, ob, ob, d3]
      · rw [eqM]
        unfold f_X9_sheet_J36
        rw [if_pos c0, if_pos c1, m4, W0, ob]
        by_cases z : b = 0
        · rw [if_pos z] at g6 ⊢
          rw [if_pos z]
          exact g6
        · rw [if_neg z] at g6 ⊢
          rw [if_neg z]
          exact g6
      · refine I.sh (fun q hq => by rw [g1 q (by omega) (by omega) (by omega), d1 q (by omega) (by omega)]) (fun t ht => ?_)
        obtain ⟨t1, t2, t3, t4, t5⟩ := I.2.2.2.2.2 t ht
        unfold Sh1
        rw [g1 (209 + 2 * t) (by omega) (by omega) (by omega), g1 (210 + 2 * t) (by omega) (by omega) (by omega), g2, g3]
        by_cases e : t = s
        · rw [e, upd_s, upd_s]
          have tl : tN (if b = 0 then 0 else nI L) 30 := by
            by_cases z : b = 0
            · rw [if_pos z]
              exact tN_of (t := 0) (by omega) (by decide)
            · rw [if_neg z]
              exact tN_of (by omega) (by decide)
          refine ⟨d2, d3, hb, tl, fun j hj => ⟨0, ?_, ?_⟩⟩
          · rw [(wz hb).1]
            exact d4 j (by have := tl.2; omega)
          · rw [(wz hb).2]
            exact g4 _ (by omega) (by have := tl.2; omega)
        · rw [upd_n e, upd_n e, d1 (209 + 2 * t) (by omega) (by omega), d1 (210 + 2 * t) (by omega) (by omega), d1 220 (by omega) (by omega), d1 221 (by omega) (by omega)]
          refine ⟨t1, t2, t3, t4, fun j hj => ?_⟩
          rw [g5 _ (by have := t4.2; omega), d1 222 (by omega) (by omega)]
          exact t5 j hj
    · refine OP.f0 (c := -100001) I ?_ (fun g e => ?_)
      · rw [eqX]
        unfold f_X8_sheet_J37
        rw [if_pos c0, if_neg c1]
        rfl
      · rw [eqM]
        unfold f_X9_sheet_J36
        rw [if_pos c0, if_neg c1]
        rfl
  · refine OP.f0 (c := -100003) I ?_ (fun g e => ?_)
    · rw [eqX]
      unfold f_X8_sheet_J37
      rw [if_neg c0]
      rfl
    · rw [eqM]
      unfold f_X9_sheet_J36
      rw [if_neg c0]
      rfl
theorem op_sheet {h : tkH} (I : Inv h) (a b c : Int32) : OP (f_X8_sheet h 0 a b c) (fun g => f_X9_sheet g 217 a b c) := by
  by_cases ha : ∃ s, s < 4 ∧ a = nI s
  · obtain ⟨s, hs, rfl⟩ := ha
    by_cases hb : b = 0 ∨ b = 8 ∨ b = 16 ∨ b = 32
    · refine sheetJ I hs hb (c := c) ?_ (fun g => ?_)
      · unfold f_X8_sheet
        rw [nl4, x_in hs (by decide)]
        simp only [ob, i1f, if_false]
        rcases hb with rfl | rfl | rfl | rfl
        · rw [if_pos rfl]
        · rw [if_neg (by decide), if_pos rfl]
        · rw [if_neg (by decide), if_neg (by decide), if_pos rfl]
        · rw [if_neg (by decide), if_neg (by decide), if_neg (by decide), if_pos rfl]
      · show f_X9_sheet g 217 (nI s) b c = _
        unfold f_X9_sheet
        rw [m_isSheet_t hs]
        simp only [ob, i1f, if_false]
        rcases hb with rfl | rfl | rfl | rfl
        · rw [if_pos rfl]
        · rw [if_neg (by decide), if_pos rfl]
        · rw [if_neg (by decide), if_neg (by decide), if_pos rfl]
        · rw [if_neg (by decide), if_neg (by decide), if_neg (by decide), if_pos rfl]
    · have b0 : ¬ b = 0 := fun q => hb (Or.inl q)
      have b1 : ¬ b = 8 := fun q => hb (Or.inr (Or.inl q))
      have b2 : ¬ b = 16 := fun q => hb (Or.inr (Or.inr (Or.inl q)))
      have b3 : ¬ b = 32 := fun q => hb (Or.inr (Or.inr (Or.inr q)))
      refine OP.f0 (c := -100001) I ?_ (fun g e => ?_)
      · unfold f_X8_sheet f_X8_sheet_J30
        rw [nl4, x_in hs (by decide)]
        simp only [ob, i1f, if_false]
        rw [if_neg b0, if_neg b1, if_neg b2, if_neg b3]
        rfl
      · show f_X9_sheet g 217 (nI s) b c = _
        unfold f_X9_sheet f_X9_sheet_J29
        rw [m_isSheet_t hs]
        simp only [ob, i1f, if_false]
        rw [if_neg b0, if_neg b1, if_neg b2, if_neg b3]
        rfl
  · refine OP.f0 (c := -100001) I ?_ (fun g e => ?_)
    · unfold f_X8_sheet f_X8_sheet_J30
      rw [nl4, x_out ha (by decide)]
      simp only [ob, i1f, eq_self, if_true, if_false]
      rfl
    · show f_X9_sheet g 217 a b c = _
      unfold f_X9_sheet f_X9_sheet_J29
      rw [m_isSheet_f ha]
      simp only [ob, i1f, eq_self, if_true, if_false]
      rfl
