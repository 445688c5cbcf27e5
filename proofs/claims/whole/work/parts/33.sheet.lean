/-! sheet, put -/
theorem Inv.sh {h hf : tkH} (I : Inv h) (p : ∀ q, q < 209 ∨ (217 ≤ q ∧ q ≤ 219) → hf q = h q) (S : ∀ s, s < 4 → Sh1 hf s) : Inv hf := by
  obtain ⟨i1, i2, i3, ⟨k, nx, k1, k2, k3, k4, k5, k6⟩, i5, i6⟩ := I
  have e218 : hf 218 = h 218 := p 218 (by omega)
  refine ⟨by rw [e218]; exact i1, ?_, ?_, ⟨k, nx, k1, k2, ?_, ?_, ?_, fun j hj => ?_⟩, ?_, S⟩
  · rw [e218]
    exact i2.be i1 (BE.of_eq (fun q h1 h2 => p q (by omega)))
  · rw [p 0 (by omega), p 217 (by omega)]
    exact i3
  · rw [p 10 (by omega)]
    exact k3
  · rw [p 217 (by omega)]
    exact k4
  · rw [p 10 (by omega)]
    exact k5
  · rw [ps_eq (p 219 (by omega))]
    refine ⟨(k6 j hj).1, (k6 j hj).2.be (k6 j hj).1 (BE.of_eq (fun q h1 h2 => p q ?_))⟩
    unfold sl at h1 h2
    omega
  · rw [e218]
    exact i5.keep (p 201 (by omega))
theorem fM : fld 217 4 = 220 ∧ fld 217 5 = 221 ∧ fld 217 6 = 222 ∧ fld 217 28 = 229 ∧ ln 220 = 4 ∧ ln 221 = 4 ∧ ln 222 = 120 := by simp only [FL, LN]; decide
theorem m_isSheet_t {g : tkH} {x : Nat} (hx : x < 4) : f_X9_isSheet g (nI x) = some (1, g) := by
  unfold f_X9_isSheet
  rw [nl3, m_in (n := 3) (by omega) (by decide)]
  simp only [ob, i1f, eq_self, if_true, if_false]
  rw [bz_1]
  simp only [ob, i1f, eq_self, if_true, if_false]
theorem m_isSheet_f {g : tkH} {x : Int32} (hx : ¬ ∃ t, t < 4 ∧ x = nI t) : f_X9_isSheet g x = some (0, g) := by
  unfold f_X9_isSheet
  rw [nl3, m_out hx (by decide)]
  simp only [ob, i1f, eq_self, if_true, if_false]
  rw [bz_0]
  simp only [ob, i1f, eq_self, if_true, if_false]
theorem r22 {g : tkH} {s : Nat} (hs : s < 4) : rdI g 220 (nI s) = some (g 220 s) ∧ rdI g 221 (nI s) = some (g 221 s) := by
  obtain ⟨-, -, -, -, l0, l1, l2⟩ := fM
  exact ⟨rdI_n (by omega) (by omega), rdI_n (by omega) (by omega)⟩
theorem w222 {g : tkH} {s i : Nat} {x : Int32} (hs : s < 4) (hi : i < 30) : wrI g 222 (30 * nI s + nI i) x = some (tkup g 222 (30 * s + i) x) := by
  obtain ⟨-, -, -, -, l0, l1, l2⟩ := fM
  rw [nl30, pk_mul, nI_add, wrI_n (by omega) (by omega)]
theorem x_missing {g : tkH} {b : Nat} : f_X6_isMissing g b = some (if g b 0 = 0 then 1 else 0, g) := by
  unfold f_X6_isMissing
  by_cases c : g b 0 = 0
  · rw [if_pos c, if_pos c]
  · rw [if_neg c, if_neg c]
theorem x_write {g : tkH} {s i : Nat} {v : Int32} (hs : s < 4) (hi : i < 30) : f_X6_write g (209 + 2 * s) (nI i) v = some (tkup g (210 + 2 * s) i (wX (g (209 + 2 * s) 0) v)) := by
  obtain ⟨a1, a2, a3⟩ := RA9 hs
  have W : ∀ x, wrI g (210 + 2 * s) (nI i) x = some (tkup g (210 + 2 * s) i x) := fun x => wrI_n (by omega) (by omega)
  unfold f_X6_write f_X6_write_J39 wX
  rw [a2]
  by_cases c : g (209 + 2 * s) 0 = 8
  · rw [if_pos c, if_pos c, W, ob]
  · rw [if_neg c, if_neg c]
    by_cases d : g (209 + 2 * s) 0 = 16
    · rw [if_pos d, if_pos d, W, ob]
    · rw [if_neg d, if_neg d, W, ob]
theorem op_put {h : tkH} (I : Inv h) (a b c : Int32) : OP (f_X8_put h 0 a b c) (fun g => f_X9_put g 217 a b c) := by
  have v := I.1
  obtain ⟨m4, m5, m6, m28, l0, l1, l2⟩ := fM
  by_cases ha : ∃ s, s < 4 ∧ a = nI s
  · obtain ⟨s, hs, rfl⟩ := ha
    obtain ⟨a1, a2, a3⟩ := RA9 hs
    obtain ⟨s1, s2, s3, s4, s5⟩ := I.2.2.2.2.2 s hs
    by_cases hz : h 220 s = 0
    · refine OP.f0 (c := -100002) I ?_ (fun g e => ?_)
      · unfold f_X8_put
        rw [nl4, x_in hs (by decide)]
        simp only [ob, i1f, eq_self, if_true, if_false]
        rw [f00.2.2.2.2.2, a1, ob, x_missing, s1, if_pos hz]
        simp only [ob, i1f, eq_self, if_true, if_false]
        rfl
      · show f_X9_put g 217 (nI s) b c = _
        unfold f_X9_put
        rw [m_isSheet_t hs]
        simp only [ob, i1f, eq_self, if_true, if_false]
        rw [m4, (r22 hs).1, ob, e 220 (by decide), if_pos hz]
        rfl
    · by_cases hi : ∃ i, i < (h 221 s).toNatClampNeg ∧ b = nI i
      · obtain ⟨i, hi, rfl⟩ := hi
        have l30 := s4.2
        refine ⟨0, tkup h (210 + 2 * s) i (wX (h 220 s) c), tkup (tkup h (210 + 2 * s) i (wX (h 220 s) c)) 222 (30 * s + i) (wM (h 220 s) c), ?_, ?_, ?_⟩
        · unfold f_X8_put
          rw [nl4, x_in hs (by decide)]
          simp only [ob, i1f, eq_self, if_true, if_false]
          rw [f00.2.2.2.2.2, a1, ob, x_missing, s1, if_neg hz]
          simp only [ob, i1f, eq_self, if_true, if_false]
          rw [s2, s4.1, x_in hi (by omega)]
          simp only [ob, i1f, eq_self, if_true, if_false]
          rw [x_write hs (by omega), ob, s1]
        · show f_X9_put _ 217 (nI s) (nI i) c = _
          unfold f_X9_put
          rw [m_isSheet_t hs]
          simp only [ob, i1f, eq_self, if_true, if_false]
          rw [m4, m5, m6, (r22 hs).1, ob, up_a (by omega), if_neg hz, (r22 hs).2, ob, up_a (by omega), s4.1, m_inP hi (by omega)]
          simp only [ob, i1f, eq_self, if_true, if_false]
          rw [(r22 hs).1, ob, up_a (by omega), w222 hs (by omega), ob]
          rfl
        · refine I.sh (fun q hq => by rw [up_a (by omega), up_a (by omega)]) (fun t ht => ?_)
          obtain ⟨t1, t2, t3, t4, t5⟩ := I.2.2.2.2.2 t ht
          have e220 : tkup (tkup h (210 + 2 * s) i (wX (h 220 s) c)) 222 (30 * s + i) (wM (h 220 s) c) 220 = h 220 := by rw [up_a (by omega), up_a (by omega)]
          have e221 : tkup (tkup h (210 + 2 * s) i (wX (h 220 s) c)) 222 (30 * s + i) (wM (h 220 s) c) 221 = h 221 := by rw [up_a (by omega), up_a (by omega)]
          have eb : tkup (tkup h (210 + 2 * s) i (wX (h 220 s) c)) 222 (30 * s + i) (wM (h 220 s) c) (209 + 2 * t) = h (209 + 2 * t) := by rw [up_a (by omega), up_a (by omega)]
          unfold Sh1
          rw [e220, e221, eb]
          refine ⟨t1, t2, t3, t4, fun j hj => ?_⟩
          have t30 := t4.2
          rw [up_a (show 210 + 2 * t ≠ 222 by omega)]
          by_cases e : t = s
          · rw [e]
            by_cases e2 : j = i
            · rw [e2]
              exact ⟨c, up_s, up_s⟩
            · rw [up_i e2, up_i (show 30 * s + j ≠ 30 * s + i by omega), up_a (show 222 ≠ 210 + 2 * s by omega)]
              rw [e] at hj
              exact s5 j hj
          · rw [up_a (show 210 + 2 * t ≠ 210 + 2 * s by omega), up_i (show 30 * t + j ≠ 30 * s + i by omega), up_a (show 222 ≠ 210 + 2 * s by omega)]
            exact t5 j hj
      · refine OP.f0 (c := -100001) I ?_ (fun g e => ?_)
        · unfold f_X8_put
          rw [nl4, x_in hs (by decide)]
          simp only [ob, i1f, eq_self, if_true, if_false]
          rw [f00.2.2.2.2.2, a1, ob, x_missing, s1, if_neg hz]
          simp only [ob, i1f, eq_self, if_true, if_false]
          rw [s2, s4.1, x_out hi (by have := s4.2; omega)]
          simp only [ob, i1f, eq_self, if_true, if_false]
          rfl
        · show f_X9_put g 217 (nI s) b c = _
          unfold f_X9_put
          rw [m_isSheet_t hs]
          simp only [ob, i1f, eq_self, if_true, if_false]
          rw [m4, m5, (r22 hs).1, ob, e 220 (by decide), if_neg hz, (r22 hs).2, ob, e 221 (by decide), s4.1, m_outP hi (by have := s4.2; omega)]
          simp only [ob, i1f, eq_self, if_true, if_false]
          rfl
  · refine OP.f0 (c := -100001) I ?_ (fun g e => ?_)
    · unfold f_X8_put
      rw [nl4, x_out ha (by decide)]
      simp only [ob, i1f, eq_self, if_true, if_false]
      rfl
    · show f_X9_put g 217 a b c = _
      unfold f_X9_put
      rw [m_isSheet_f ha]
      simp only [ob, i1f, eq_self, if_true, if_false]
      rfl
