/-! lay: whether a sheet tells STEPS -/
def okA (f : Nat → Int32) (p : Nat) : Prop := (∃ m, m < 16 ∧ f p = nI m) ∧ (∃ w, w < 4 ∧ f (p + 1) = nI w) ∧ ∃ u, u < 4 ∧ f (p + 2) = nI u
theorem x_tells {g : tkH} {s L : Nat} (hs : s < 4) (hL : L ≤ 30) (e : g (209 + 2 * s) 1 = nI L) : ∀ (k n y : Nat), k + y = L / 3 → k < n → ((∀ i, y ≤ i → i < L / 3 → okA (g (210 + 2 * s)) (3 * i)) → f_X6_tellsSteps_L2 (209 + 2 * s) n g (nI y) = some (1, g)) ∧ ((¬ ∀ i, y ≤ i → i < L / 3 → okA (g (210 + 2 * s)) (3 * i)) → f_X6_tellsSteps_L2 (209 + 2 * s) n g (nI y) = some (0, g)) := by
  obtain ⟨a1, a2, a3⟩ := RA9 hs
  have hh : f_X6_howManySteps g (209 + 2 * s) = some (nI (L / 3), g) := by
    unfold f_X6_howManySteps
    rw [e, dv3 hL]
  intro k
  induction k with
  | zero =>
    intro n y hy hn
    obtain ⟨n', rfl⟩ : ∃ n', n = n' + 1 := ⟨n - 1, by omega⟩
    have z : f_X6_tellsSteps_L2 (209 + 2 * s) (n' + 1) g (nI y) = some (1, g) := by
      rw [f_X6_tellsSteps_L2_s, hh, ob, if_pos (by rw [nI_leI (by omega) (by omega)]; omega)]
    exact ⟨fun _ => z, fun q => absurd (fun i h1 h2 => by omega) q⟩
  | succ k ih =>
    intro n y hy hn
    obtain ⟨n', rfl⟩ : ∃ n', n = n' + 1 := ⟨n - 1, by omega⟩
    have st : f_X6_tellsSteps_L2 (209 + 2 * s) (n' + 1) g (nI y) = (f_X8_isStep g (g (210 + 2 * s) (3 * y)) (g (210 + 2 * s) (3 * y + 1)) (g (210 + 2 * s) (3 * y + 2))).bind fun x38 => if x38.1 = 0 then (some (0, x38.2)) else (f_X6_tellsSteps_L2 (209 + 2 * s) n' x38.2 (nI (y + 1))) := by
      rw [f_X6_tellsSteps_L2_s, hh, ob, if_neg (by rw [nI_leI (by omega) (by omega)]; omega), a2, nl3, pk_mul, nI_1, nl2, nI_add, rdI_n (by omega) (by omega), ob, rdI_n (by omega) (by omega), ob, rdI_n (by omega) (by omega), ob, nI_1]
    by_cases c : okA (g (210 + 2 * s)) (3 * y)
    · obtain ⟨⟨m, hm, e1⟩, ⟨w, hw, e2⟩, ⟨u, hu, e3⟩⟩ := id c
      rw [e1, e2, e3, x_isStep_t hm hw hu, ob] at st
      have st' : f_X6_tellsSteps_L2 (209 + 2 * s) (n' + 1) g (nI y) = f_X6_tellsSteps_L2 (209 + 2 * s) n' g (nI (y + 1)) := by
        rw [st]
        simp only [i1f, if_false]
      obtain ⟨i1, i2⟩ := ih n' (y + 1) (by omega) (by omega)
      refine ⟨fun q => st'.trans (i1 (fun i h1 h2 => q i (by omega) h2)), fun q => st'.trans (i2 (fun q2 => q (fun i h1 h2 => ?_)))⟩
      by_cases ei : i = y
      · rw [ei]
        exact c
      · exact q2 i (by omega) h2
    · have st' : f_X6_tellsSteps_L2 (209 + 2 * s) (n' + 1) g (nI y) = some (0, g) := by
        rw [st, x_isStep_f c, ob]
        simp only [eq_self, if_true]
      exact ⟨fun q => absurd (q y (by omega) (by omega)) c, fun _ => st'⟩
theorem m_tells {g : tkH} {s L : Nat} (hs : s < 4) (hL : L ≤ 30) {k1 k2 : tkH → Option (Int32 × tkH)} : ∀ (k n y : Nat), k + y = L / 3 → k < n → ((∀ i, y ≤ i → i < L / 3 → okA (g 222) (30 * s + 3 * i)) → f_X9_lay_L56 (nI L) 217 (nI s) k1 k2 n g (nI y) = k2 g) ∧ ((¬ ∀ i, y ≤ i → i < L / 3 → okA (g 222) (30 * s + 3 * i)) → f_X9_lay_L56 (nI L) 217 (nI s) k1 k2 n g (nI y) = k1 g) := by
  obtain ⟨m4, m5, m6, m28, l0, l1, l2⟩ := fM
  intro k
  induction k with
  | zero =>
    intro n y hy hn
    obtain ⟨n', rfl⟩ : ∃ n', n = n' + 1 := ⟨n - 1, by omega⟩
    have z : f_X9_lay_L56 (nI L) 217 (nI s) k1 k2 (n' + 1) g (nI y) = k2 g := by
      rw [f_X9_lay_L56_s, dv3 hL, if_pos (by rw [nI_leI (by omega) (by omega)]; omega)]
    exact ⟨fun _ => z, fun q => absurd (fun i h1 h2 => by omega) q⟩
  | succ k ih =>
    intro n y hy hn
    obtain ⟨n', rfl⟩ : ∃ n', n = n' + 1 := ⟨n - 1, by omega⟩
    have st : f_X9_lay_L56 (nI L) 217 (nI s) k1 k2 (n' + 1) g (nI y) = (f_X9_isMotif g (g 222 (30 * s + 3 * y))).bind fun x74 => if x74.1 = 0 then (k1 x74.2) else ((rdI x74.2 222 (nI (30 * s + 3 * y + 1))).bind fun v93 => (f_X9_isRole x74.2 v93).bind fun x94 => if x94.1 = 0 then (k1 x94.2) else ((rdI x94.2 222 (nI (30 * s + 3 * y + 2))).bind fun v113 => (f_X9_isRole x94.2 v113).bind fun x114 => if x114.1 = 0 then (k1 x114.2) else (f_X9_lay_L56 (nI L) 217 (nI s) k1 k2 n' x114.2 (nI (y + 1))))) := by
      rw [f_X9_lay_L56_s, dv3 hL, if_neg (by rw [nI_leI (by omega) (by omega)]; omega), m6, nl30, nl3, pk_mul, pk_mul, nI_add, nI_1, nl2, nI_add, rdI_n (by omega) (by omega), ob, nI_1]
    by_cases c1 : ∃ m, m < 16 ∧ g 222 (30 * s + 3 * y) = nI m
    · obtain ⟨m, hm, e1⟩ := id c1
      rw [e1, m_isMotif_t hm, ob] at st
      simp only [i1f, if_false] at st
      rw [rdI_n (by omega) (by omega), ob] at st
      by_cases c2 : ∃ w, w < 4 ∧ g 222 (30 * s + 3 * y + 1) = nI w
      · obtain ⟨w, hw, e2⟩ := id c2
        rw [e2, m_isRole_t hw, ob] at st
        simp only [i1f, if_false] at st
        rw [rdI_n (by omega) (by omega), ob] at st
        by_cases c3 : ∃ u, u < 4 ∧ g 222 (30 * s + 3 * y + 2) = nI u
        · obtain ⟨u, hu, e3⟩ := id c3
          rw [e3, m_isRole_t hu, ob] at st
          simp only [i1f, if_false] at st
          obtain ⟨i1, i2⟩ := ih n' (y + 1) (by omega) (by omega)
          refine ⟨fun q => st.trans (i1 (fun i h1 h2 => q i (by omega) h2)), fun q => st.trans (i2 (fun q2 => q (fun i h1 h2 => ?_)))⟩
          by_cases ei : i = y
          · rw [ei]
            exact ⟨c1, c2, c3⟩
          · exact q2 i (by omega) h2
        · rw [m_isRole_f c3, ob] at st
          simp only [eq_self, if_true] at st
          exact ⟨fun q => absurd (q y (by omega) (by omega)).2.2 c3, fun _ => st⟩
      · rw [m_isRole_f c2, ob] at st
        simp only [eq_self, if_true] at st
        exact ⟨fun q => absurd (q y (by omega) (by omega)).2.1 c2, fun _ => st⟩
    · rw [m_isMotif_f c1, ob] at st
      simp only [eq_self, if_true] at st
      exact ⟨fun q => absurd (q y (by omega) (by omega)).1 c1, fun _ => st⟩
/-! lay: what is written -/
theorem sh_ok {h : tkH} {s i : Nat} (S : Sh1 h s) (hb : ¬ h 220 s = 0) (hi : 3 * i + 2 < (h 221 s).toNatClampNeg) : (okA (h (210 + 2 * s)) (3 * i) → okA (h 222) (30 * s + 3 * i)) ∧ (okA (h 222) (30 * s + 3 * i) → okA (h (210 + 2 * s)) (3 * i)) ∧ (okA (h 222) (30 * s + 3 * i) → ∀ w, w < 3 → h (210 + 2 * s) (3 * i + w) = h 222 (30 * s + 3 * i + w)) := by
  obtain ⟨s1, s2, s3, s4, s5⟩ := S
  have b : h 220 s = 8 ∨ h 220 s = 16 ∨ h 220 s = 32 := s3.resolve_left hb
  have V : ∀ w, w < 3 → VS (h (210 + 2 * s) (3 * i + w)) (h 222 (30 * s + 3 * i + w)) := by
    intro w hw
    obtain ⟨x, e1, e2⟩ := s5 (3 * i + w) (by omega)
    rw [show 30 * s + 3 * i + w = 30 * s + (3 * i + w) by omega, e1, e2]
    exact sv b
  have v0 := (V 0 (by decide)).k (n := 16) (by decide)
  have v1 := (V 1 (by decide)).k (n := 4) (by decide)
  have v2 := (V 2 (by decide)).k (n := 4) (by decide)
  rw [Nat.add_zero, Nat.add_zero] at v0
  refine ⟨fun ⟨⟨m, hm, e0⟩, ⟨w, hw, e1⟩, ⟨u, hu, e2⟩⟩ => ?_, fun ⟨⟨m, hm, e0⟩, ⟨w, hw, e1⟩, ⟨u, hu, e2⟩⟩ => ?_, fun ⟨⟨m, hm, e0⟩, ⟨w, hw, e1⟩, ⟨u, hu, e2⟩⟩ => ?_⟩
  · rcases v0 with ⟨k0, p0, q0, r0⟩ | ⟨n0, _⟩
    · rcases v1 with ⟨k1, p1, q1, r1⟩ | ⟨n1, _⟩
      · rcases v2 with ⟨k2, p2, q2, r2⟩ | ⟨n2, _⟩
        · exact ⟨⟨k0, p0, r0⟩, ⟨k1, p1, r1⟩, ⟨k2, p2, r2⟩⟩
        · exact absurd ⟨u, hu, e2⟩ n2
      · exact absurd ⟨w, hw, e1⟩ n1
    · exact absurd ⟨m, hm, e0⟩ n0
  · rcases v0 with ⟨k0, p0, q0, r0⟩ | ⟨_, n0⟩
    · rcases v1 with ⟨k1, p1, q1, r1⟩ | ⟨_, n1⟩
      · rcases v2 with ⟨k2, p2, q2, r2⟩ | ⟨_, n2⟩
        · exact ⟨⟨k0, p0, q0⟩, ⟨k1, p1, q1⟩, ⟨k2, p2, q2⟩⟩
        · exact absurd ⟨u, hu, e2⟩ n2
      · exact absurd ⟨w, hw, e1⟩ n1
    · exact absurd ⟨m, hm, e0⟩ n0
  · rcases v0 with ⟨k0, p0, q0, r0⟩ | ⟨_, n0⟩
    · rcases v1 with ⟨k1, p1, q1, r1⟩ | ⟨_, n1⟩
      · rcases v2 with ⟨k2, p2, q2, r2⟩ | ⟨_, n2⟩
        · intro x hx
          match x, hx with
          | 0, _ => rw [Nat.add_zero, Nat.add_zero, q0, r0]
          | 1, _ => rw [q1, r1]
          | 2, _ => rw [q2, r2]
        · exact absurd ⟨u, hu, e2⟩ n2
      · exact absurd ⟨w, hw, e1⟩ n1
    · exact absurd ⟨m, hm, e0⟩ n0
theorem x_stepAtS {g : tkH} {s i : Nat} (hs : s < 4) (hi : 3 * i + 2 < 30) : f_X6_stepAt g (209 + 2 * s) (nI i) = some (pk3 (g (210 + 2 * s) (3 * i)) (g (210 + 2 * s) (3 * i + 1)) (g (210 + 2 * s) (3 * i + 2)), g) := by
  obtain ⟨a1, a2, a3⟩ := RA9 hs
  unfold f_X6_stepAt
  rw [a2, nl3, pk_mul, nI_1, nl2, nI_add, rdI_n (by omega) (by omega), ob, rdI_n (by omega) (by omega), ob, rdI_n (by omega) (by omega), ob]
  rfl
theorem x_addStep {g : tkH} {t y : Nat} {x : Int32} (ht : t < 10) (hy : y < 10) (e : g 6 t = nI y) : f_X0_addStep g 1 (nI t) x = some (tkup (tkup g 7 (10 * t + y) x) 6 t (nI (y + 1))) := by
  have l6 : ln 6 = 10 := by simp only [LN]
  have l7 : ln 7 = 100 := by simp only [LN]
  unfold f_X0_addStep
  rw [show fld 1 5 = 6 by simp only [FL], show fld 1 6 = 7 by simp only [FL], rdI_n (by omega) (by omega), ob, e, nl10, pk_mul, nI_add, wrI_n (by omega) (by omega), ob, rdI_n (by omega) (by omega), ob, up_a (by decide), e, nI_1, wrI_n (by omega) (by omega), ob, show t * 10 + y = 10 * t + y by omega]
theorem x_layL {t s L : Nat} (ht : t < 10) (hs : s < 4) (hL : L ≤ 30) {kx : tkH → Option (Int32 × tkH)} : ∀ (k n y : Nat) (g : tkH), k + y = L / 3 → k < n → g (209 + 2 * s) 1 = nI L → g 6 t = nI y → ∃ hf, (∀ q, q ≠ 6 → q ≠ 7 → hf q = g q) ∧ hf 6 t = nI (L / 3) ∧ (∀ j, j ≠ t → hf 6 j = g 6 j) ∧ (∀ i, y ≤ i → i < L / 3 → hf 7 (10 * t + i) = pk3 (g (210 + 2 * s) (3 * i)) (g (210 + 2 * s) (3 * i + 1)) (g (210 + 2 * s) (3 * i + 2))) ∧ (∀ x, ¬ (10 * t + y ≤ x ∧ x < 10 * t + L / 3) → hf 7 x = g 7 x) ∧ f_X8_lay_L95 0 (nI s) (nI t) kx n g (nI y) = kx hf := by
  obtain ⟨a1, a2, a3⟩ := RA9 hs
  intro k
  induction k with
  | zero =>
    intro n y g hy hn e1 e6
    obtain ⟨n', rfl⟩ : ∃ n', n = n' + 1 := ⟨n - 1, by omega⟩
    have hh : f_X6_howManySteps g (209 + 2 * s) = some (nI (L / 3), g) := by
      unfold f_X6_howManySteps
      rw [e1, dv3 hL]
    refine ⟨g, fun _ _ _ => rfl, by rw [e6, show y = L / 3 by omega], fun _ _ => rfl, fun i h1 h2 => by omega, fun _ _ => rfl, ?_⟩
    rw [f_X8_lay_L95_s, f00.2.2.2.2.2, a1, ob, hh, ob, if_pos (by rw [nI_leI (by omega) (by omega)]; omega)]
  | succ k ih =>
    intro n y g hy hn e1 e6
    obtain ⟨n', rfl⟩ : ∃ n', n = n' + 1 := ⟨n - 1, by omega⟩
    have hh : f_X6_howManySteps g (209 + 2 * s) = some (nI (L / 3), g) := by
      unfold f_X6_howManySteps
      rw [e1, dv3 hL]
    generalize hX : pk3 (g (210 + 2 * s) (3 * y)) (g (210 + 2 * s) (3 * y + 1)) (g (210 + 2 * s) (3 * y + 2)) = X
    have st : f_X8_lay_L95 0 (nI s) (nI t) kx (n' + 1) g (nI y) = f_X8_lay_L95 0 (nI s) (nI t) kx n' (tkup (tkup g 7 (10 * t + y) X) 6 t (nI (y + 1))) (nI (y + 1)) := by
      rw [f_X8_lay_L95_s, f00.2.2.2.2.2, a1, ob, hh, ob, if_neg (by rw [nI_leI (by omega) (by omega)]; omega), ob, x_stepAtS hs (by omega), ob, hX]
      simp only []
      rw [f00.1, x_addStep ht (by omega) e6, ob, nI_1]
    obtain ⟨hf, b1, b2, b3, b4, b5, b6⟩ := ih n' (y + 1) (tkup (tkup g 7 (10 * t + y) X) 6 t (nI (y + 1))) (by omega) (by omega) (by rw [up_a (by omega), up_a (by omega)]; exact e1) up_s
    refine ⟨hf, fun q h1 h2 => by rw [b1 q h1 h2, up_a h1, up_a h2], b2, fun j hj => by rw [b3 j hj, up_i hj, up_a (by decide)], fun i h1 h2 => ?_, fun x hx => ?_, st.trans b6⟩
    · by_cases e : i = y
      · rw [b5 _ (by omega), up_a (by decide), e, up_s, ← hX]
      · rw [b4 i (by omega) h2, up_a (by omega), up_a (by omega)]
    · rw [b5 x (by omega), up_a (by decide), up_i (by omega)]
theorem Vd.st3 {f : Nat → Int32} (v : Vd f) {p m w u : Nat} (hm : m < 16) (hw : w < 4) (hu : u < 4) : Vd (upd (upd (upd f (90 + 3 * p) (nI m)) (90 + 3 * p + 1) (nI w)) (90 + 3 * p + 2) (nI u)) := by
  have b0 : bd (90 + 3 * p) = 15 := by unfold bd; rw [if_neg (by omega), if_neg (by omega), if_neg (by omega), if_neg (by omega), if_neg (by omega), if_pos (by omega)]
  have b1 : bd (90 + 3 * p + 1) = 3 := by unfold bd; rw [if_neg (by omega), if_neg (by omega), if_neg (by omega), if_neg (by omega), if_neg (by omega), if_neg (by omega)]
  have b2 : bd (90 + 3 * p + 2) = 3 := by unfold bd; rw [if_neg (by omega), if_neg (by omega), if_neg (by omega), if_neg (by omega), if_neg (by omega), if_neg (by omega)]
  exact ((v.up1 (k := 90 + 3 * p) (x := nI m) (Or.inr (by omega)) (by rw [b0]; exact tN_of (by omega) (by decide))).up1 (k := 90 + 3 * p + 1) (x := nI w) (Or.inr (by omega)) (by rw [b1]; exact tN_of (by omega) (by decide))).up1 (k := 90 + 3 * p + 2) (x := nI u) (Or.inr (by omega)) (by rw [b2]; exact tN_of (by omega) (by decide))
theorem m_layL {t s L : Nat} (ht : t < 10) (hs : s < 4) (hL : L ≤ 30) {kx : tkH → Option (Int32 × tkH)} : ∀ (k n y : Nat) (g : tkH), k + y = L / 3 → k < n → Vd (g 218) → (∀ i, y ≤ i → i < L / 3 → okA (g 222) (30 * s + 3 * i)) → ∃ hf, BC 218 g hf ∧ Vd (hf 218) ∧ (∀ i, y ≤ i → i < L / 3 → ∀ w, w < 3 → hf 218 (90 + 3 * (10 * t + i) + w) = g 222 (30 * s + 3 * i + w)) ∧ (∀ x, ¬ (90 + 3 * (10 * t + y) ≤ x ∧ x < 90 + 3 * (10 * t + L / 3)) → hf 218 x = g 218 x) ∧ f_X9_lay_L140 (nI L) 217 (nI s) (nI t) kx n g (nI y) = kx hf := by
  obtain ⟨m4, m5, m6, m28, l0, l1, l2⟩ := fM
  intro k
  induction k with
  | zero =>
    intro n y g hy hn v ok
    obtain ⟨n', rfl⟩ : ∃ n', n = n' + 1 := ⟨n - 1, by omega⟩
    refine ⟨g, BC.rf, v, fun i h1 h2 => by omega, fun _ _ => rfl, ?_⟩
    rw [f_X9_lay_L140_s, dv3 hL, if_pos (by rw [nI_leI (by omega) (by omega)]; omega)]
  | succ k ih =>
    intro n y g hy hn v ok
    obtain ⟨n', rfl⟩ : ∃ n', n = n' + 1 := ⟨n - 1, by omega⟩
    obtain ⟨⟨m, hm, e0⟩, ⟨w, hw, e1⟩, ⟨u, hu, e2⟩⟩ := ok y (by omega) (by omega)
    generalize hG : tkup (tkup (tkup g 218 (90 + 3 * (10 * t + y)) (nI m)) 218 (90 + 3 * (10 * t + y) + 1) (nI w)) 218 (90 + 3 * (10 * t + y) + 2) (nI u) = G
    have st : f_X9_lay_L140 (nI L) 217 (nI s) (nI t) kx (n' + 1) g (nI y) = f_X9_lay_L140 (nI L) 217 (nI s) (nI t) kx n' G (nI (y + 1)) := by
      rw [f_X9_lay_L140_s, dv3 hL, if_neg (by rw [nI_leI (by omega) (by omega)]; omega), m6, nl30, nl3, pk_mul, pk_mul, nI_add, nI_1, nl2, nI_add, rdI_n (by omega) (by omega), ob, rdI_n (by omega) (by omega), ob, rdI_n (by omega) (by omega), ob, e0, e1, e2, m_setStep ht (by omega), ob, nI_1, hG]
    have eG : ∀ q, q ≠ 218 → G q = g q := fun q e => by rw [← hG, up_a e, up_a e, up_a e]
    obtain ⟨hf, b1, b2, b3, b4, b5⟩ := ih n' (y + 1) G (by omega) (by omega) (by rw [← hG, up218, up218, up218]; exact v.st3 hm hw hu) (fun i h1 h2 => by rw [eG 222 (by decide)]; exact ok i (by omega) h2)
    refine ⟨hf, fun q e => (b1 q e).trans (eG q e), b2, fun i h1 h2 x hx => ?_, fun x hx => ?_, st.trans b5⟩
    · by_cases e : i = y
      · rw [b4 _ (by omega), e, ← hG]
        match x, hx with
        | 0, _ =>
          show tkup (tkup (tkup g 218 (90 + 3 * (10 * t + y)) (nI m)) 218 (90 + 3 * (10 * t + y) + 1) (nI w)) 218 (90 + 3 * (10 * t + y) + 2) (nI u) 218 (90 + 3 * (10 * t + y)) = g 222 (30 * s + 3 * y)
          rw [up_i (by omega), up_i (by omega), up_s, e0]
        | 1, _ => rw [up_i (by omega), up_s, e1]
        | 2, _ => rw [up_s, e2]
      · rw [b3 i (by omega) h2 x hx, eG 222 (by decide)]
    · rw [b4 x (by omega), ← hG, up_i (by omega), up_i (by omega), up_i (by omega)]
theorem op_lay {h : tkH} (I : Inv h) (a b : Int32) : OP (f_X8_lay h 0 a b) (fun g => f_X9_lay g 217 a b) := by
  have v := I.1
  have n2 := v.n.2
  have l6 : ln 6 = 10 := by simp only [LN]
  obtain ⟨m4, m5, m6, m28, l0, l1, l2⟩ := fM
  by_cases ha : ∃ t, t < cN (h 218) ∧ a = nI t
  · obtain ⟨t, ht, rfl⟩ := ha
    by_cases hb : ∃ s, s < 4 ∧ b = nI s
    · obtain ⟨s, hs, rfl⟩ := hb
      obtain ⟨a1, a2, a3⟩ := RA9 hs
      have S := I.2.2.2.2.2 s hs
      obtain ⟨s1, s2, s3, s4, s5⟩ := id S
      by_cases hz : h 220 s = 0
      · refine OP.f0 (c := -100002) I ?_ (fun g e => ?_)
        · unfold f_X8_lay
          rw [f00.1, x_hasTale_t I.x0 n2 ht]
          simp only [ob, i1f, eq_self, if_true, if_false]
          rw [nl4, x_in hs (by decide)]
          simp only [ob, i1f, eq_self, if_true, if_false]
          rw [f00.2.2.2.2.2, a1, ob, x_missing, s1, if_pos hz]
          simp only [ob, i1f, eq_self, if_true, if_false]
          rfl
        · show f_X9_lay g 217 (nI t) (nI s) = _
          unfold f_X9_lay
          rw [m_isTale_t (n := cN (h 218)) (by rw [e 218 (by decide)]; exact v.n.1) n2 ht]
          simp only [ob, i1f, eq_self, if_true, if_false]
          rw [m_isSheet_t hs]
          simp only [ob, i1f, eq_self, if_true, if_false]
          rw [m4, (r22 hs).1, ob, e 220 (by decide), if_pos hz]
          rfl
      · obtain ⟨s41, s42⟩ := s4
        generalize hgl : (h 221 s).toNatClampNeg = L at *
        by_cases ho : ∀ i, 0 ≤ i → i < L / 3 → okA (h 222) (30 * s + 3 * i)
        · have K1 : ∀ i, i < L / 3 → 3 * i + 2 < (h 221 s).toNatClampNeg := fun i hi => by omega
          have hoX : ∀ i, 0 ≤ i → i < L / 3 → okA (h (210 + 2 * s)) (3 * i) := fun i h1 h2 => (sh_ok S hz (K1 i h2)).2.1 (ho i h1 h2)
          have hE : ∀ i, i < L / 3 → ∀ w, w < 3 → h (210 + 2 * s) (3 * i + w) = h 222 (30 * s + 3 * i + w) := fun i h2 => (sh_ok S hz (K1 i h2)).2.2 (ho i (Nat.zero_le _) h2)
          obtain ⟨h1, k1, k2, K⟩ := mutK I
          obtain ⟨h2, c1, c2, c3⟩ := x_forget (g := h1) (t := t) (by omega)
          have E3 : ∀ q, q ≠ 6 → q ≠ 201 → tkup h2 6 t 0 q = h1 q := fun q e1 e2 => by rw [up_a e1, c1 q e2]
          obtain ⟨h4, d1, d2, d3, d4, d5, d6⟩ := x_layL (kx := fun gz132 => (rdI gz132 6 (nI t)).bind fun v140 => some (v140, gz132)) (t := t) (by omega) hs s42 (L / 3) FU 0 (tkup h2 6 t 0) (by omega) (FU_gt (by omega)) (by rw [E3 _ (by omega) (by omega), k2 _ (by omega), s2, s41]) up_s
          have E4 : ∀ q, q ≠ 6 → q ≠ 7 → q ≠ 201 → h4 q = h1 q := fun q e1 e2 e3 => (d1 q e1 e2).trans (E3 q e1 e3)
          have E5 : ∀ q, q ≠ 6 → q ≠ 7 → q ≤ 9 ∨ (192 ≤ q ∧ q ≠ 201) → h4 q = h q := fun q e1 e2 e3 => (E4 q e1 e2 (by omega)).trans (k2 q (by omega))
          obtain ⟨hk, m1, m2, m3, mI⟩ := K h4 (fun z g1 g2 => E4 z (by omega) (by omega) g2) (E4 0 (by decide) (by decide) (by decide))
          have e222 : hk 222 = h 222 := (m3 222 (by decide) (by decide)).trans (E5 222 (by decide) (by decide) (by omega))
          obtain ⟨h5, f1, f2, f3, f4, f5⟩ := m_layL (kx := fun gz199 => (wrI gz199 218 (70 + nI t) (nI L / 3)).bind fun h208 => some (nI L / 3, h208)) (t := t) (by omega) hs s42 (L / 3) FU 0 hk (by omega) (FU_gt (by omega)) (by rw [m2]; exact v) (fun i q1 q2 => by rw [e222]; exact ho i q1 q2)
          have U5 : ∀ i, (i < 90 + 30 * t ∨ 90 + 30 * t + 30 ≤ i) → h5 218 i = h 218 i := fun i hi => by rw [f4 i (by omega), m2]
          have N5 : cN (h5 218) = cN (h 218) := by unfold cN; rw [U5 0 (by omega)]
          refine ⟨nI (L / 3), h4, tkup h5 218 (70 + t) (nI (L / 3)), ?_, ?_, mI _ (fun q e => by rw [up_a e, f1 q e]) ?_ ?_ ?_⟩
          · unfold f_X8_lay
            rw [f00.1, x_hasTale_t I.x0 n2 ht]
            simp only [ob, i1f, eq_self, if_true, if_false]
            rw [nl4, x_in hs (by decide)]
            simp only [ob, i1f, eq_self, if_true, if_false]
            rw [f00.2.2.2.2.2, a1, ob, x_missing, s1, if_neg hz]
            simp only [ob, i1f, eq_self, if_true, if_false]
            have tt : f_X6_tellsSteps h (209 + 2 * s) = some (1, h) := (x_tells (g := h) hs s42 (by rw [s2, s41]) (L / 3) FU 0 (by omega) (FU_gt (by omega))).1 hoX
            rw [tt]
            simp only [ob, i1f, eq_self, if_true, if_false]
            rw [f00.2.1, k1, ob, f00.2.2.1, c3, ob, show fld 1 5 = 6 by simp only [FL], wrI_n (by omega) (by omega), ob]
            refine d6.trans ?_
            show (rdI h4 6 (nI t)).bind _ = _
            rw [rdI_n (by omega) (by omega), ob, d2]
          · show f_X9_lay h4 217 (nI t) (nI s) = _
            unfold f_X9_lay
            rw [m_isTale_t (n := cN (h 218)) (by rw [E5 218 (by decide) (by decide) (by omega)]; exact v.n.1) n2 ht]
            simp only [ob, i1f, eq_self, if_true, if_false]
            rw [m_isSheet_t hs]
            simp only [ob, i1f, eq_self, if_true, if_false]
            rw [m4, m5, (r22 hs).1, ob, E5 220 (by decide) (by decide) (by omega), if_neg hz, (r22 hs).2, ob, E5 221 (by decide) (by decide) (by omega), s41]
            refine ((m_tells hs s42 (L / 3) FU 0 (by omega) (FU_gt (by omega))).1 (fun i q1 q2 => by rw [E5 222 (by decide) (by decide) (by omega)]; exact ho i q1 q2)).trans ?_
            show (f_X9_keep h4 217).bind _ = _
            rw [m1, ob, show fld 217 0 = 218 by simp only [FL]]
            refine f5.trans ?_
            show (wrI h5 218 (70 + nI t) (nI L / 3)).bind _ = _
            rw [nl70, nI_add, w218 (by omega), ob, dv3 s42]
          · rw [up218]
            refine f2.len (by rw [N5]; exact ht) (by omega) (fun i hi => ?_)
            obtain ⟨⟨m, hm, e0⟩, ⟨w, hw, e1⟩, ⟨u, hu, e2⟩⟩ := ho i (Nat.zero_le _) hi
            have g0 := f3 i (Nat.zero_le _) hi 0 (by decide)
            rw [Nat.add_zero, Nat.add_zero] at g0
            rw [g0, f3 i (Nat.zero_le _) hi 1 (by decide), f3 i (Nat.zero_le _) hi 2 (by decide), e222, e0, e1, e2]
            exact ⟨tN_of (by omega) (by decide), tN_of (by omega) (by decide), tN_of (by omega) (by decide)⟩
          · rw [up218]
            generalize hF : upd (h5 218) (70 + t) (nI (L / 3)) = F
            have U : ∀ i, i ≠ 70 + t → (i < 90 + 30 * t ∨ 90 + 30 * t + 30 ≤ i) → F i = h 218 i := fun i g1 g2 => by rw [← hF, upd_n g1, U5 i g2]
            obtain ⟨x0, x1, x2, x3⟩ := I.2.1
            have eN : cN F = cN (h 218) := by unfold cN; rw [U 0 (by omega) (by omega)]
            have E : ∀ z, z ≠ 6 → z ≠ 7 → z ≤ 9 → h4 z = h z := fun z g1 g2 g3 => E5 z g1 g2 (by omega)
            refine ⟨by rw [E 1 (by omega) (by omega) (by omega), U 0 (by omega) (by omega)]; exact x0, fun c hc => ?_, fun i hi => by rw [E (1 + 7) (by omega) (by omega) (by omega), U _ (by omega) (by omega)]; exact x2 i hi, fun i hi => by rw [E (1 + 8) (by omega) (by omega) (by omega), U _ (by omega) (by omega)]; exact x3 i hi⟩
            rw [eN] at hc
            obtain ⟨y1, y2, y3, y4, y5, y6⟩ := x1 c hc
            have ls := (v.l hc).2
            refine ⟨by rw [E (1 + 1) (by omega) (by omega) (by omega), U _ (by omega) (by omega)]; exact y1, by rw [E (1 + 2) (by omega) (by omega) (by omega), U _ (by omega) (by omega)]; exact y2, by rw [E (1 + 3) (by omega) (by omega) (by omega), U _ (by omega) (by omega)]; exact y3, by rw [E (1 + 4) (by omega) (by omega) (by omega), U _ (by omega) (by omega)]; exact y4, ?_, fun i hi => ?_⟩
            · show h4 6 c = _
              by_cases e : c = t
              · rw [e, d2, ← hF, upd_s]
              · rw [d3 c e, up_i e, c1 6 (by decide), k2 6 (by omega), U _ (by omega) (by omega)]
                exact y5
            · show h4 7 (10 * c + i) = _
              by_cases e : c = t
              · rw [e] at hi ⊢
                have hc2 : cL F t = L / 3 := by rw [← hF]; exact cL_upd (by omega)
                rw [hc2] at hi
                have z0 := hE i hi 0 (by decide)
                have g0 := f3 i (Nat.zero_le _) hi 0 (by decide)
                rw [Nat.add_zero, Nat.add_zero] at z0 g0
                rw [d4 i (Nat.zero_le _) hi, ← hF, upd_n (by omega), upd_n (by omega), upd_n (by omega), g0, f3 i (Nat.zero_le _) hi 1 (by decide), f3 i (Nat.zero_le _) hi 2 (by decide), e222, E3 _ (by omega) (by omega), k2 _ (by omega), z0, hE i hi 1 (by decide), hE i hi 2 (by decide)]
              · have hc2 : cL F c = cL (h 218) c := by unfold cL; rw [U _ (by omega) (by omega)]
                rw [d5 _ (by omega), up_a (by decide), c1 7 (by decide), k2 7 (by omega), U _ (by omega) (by omega), U _ (by omega) (by omega), U _ (by omega) (by omega)]
                exact y6 i (by omega)
          · rw [up218]
            have U : ∀ i, i ≠ 70 + t → (i < 90 + 30 * t ∨ 90 + 30 * t + 30 ≤ i) → upd (h5 218) (70 + t) (nI (L / 3)) i = h 218 i := fun i g1 g2 => by rw [upd_n g1, U5 i g2]
            refine Ca.forget (t := t) (I.2.2.2.2.1.keep (hf := h1) (k2 201 (by omega))) (fun a b ha hb => by rw [d1 201 (by decide) (by decide), up_a (by decide)]; exact c2 a b ha hb) (by unfold cN; rw [U 0 (by omega) (by omega)]) (fun a b ha hb hat hbt => ?_)
            have la := (v.l ha).2
            have lb := (v.l hb).2
            rw [cst_congr (fun j hj => U _ (by omega) (by omega)) ⟨U _ (by omega) (by omega), U _ (by omega) (by omega), fun i w _ _ => U _ (by omega) (by omega)⟩ ⟨U _ (by omega) (by omega), U _ (by omega) (by omega), fun i w _ _ => U _ (by omega) (by omega)⟩]
        · have hoX : ¬ ∀ i, 0 ≤ i → i < L / 3 → okA (h (210 + 2 * s)) (3 * i) := fun q => ho (fun i q1 q2 => (sh_ok S hz (by omega)).1 (q i q1 q2))
          refine OP.f0 (c := -100001) I ?_ (fun g e => ?_)
          · unfold f_X8_lay
            rw [f00.1, x_hasTale_t I.x0 n2 ht]
            simp only [ob, i1f, eq_self, if_true, if_false]
            rw [nl4, x_in hs (by decide)]
            simp only [ob, i1f, eq_self, if_true, if_false]
            rw [f00.2.2.2.2.2, a1, ob, x_missing, s1, if_neg hz]
            simp only [ob, i1f, eq_self, if_true, if_false]
            have tt : f_X6_tellsSteps h (209 + 2 * s) = some (0, h) := (x_tells (g := h) hs s42 (by rw [s2, s41]) (L / 3) FU 0 (by omega) (FU_gt (by omega))).2 hoX
            rw [tt]
            simp only [ob, i1f, eq_self, if_true, if_false]
            rfl
          · show f_X9_lay g 217 (nI t) (nI s) = _
            unfold f_X9_lay
            rw [m_isTale_t (n := cN (h 218)) (by rw [e 218 (by decide)]; exact v.n.1) n2 ht]
            simp only [ob, i1f, eq_self, if_true, if_false]
            rw [m_isSheet_t hs]
            simp only [ob, i1f, eq_self, if_true, if_false]
            rw [m4, m5, (r22 hs).1, ob, e 220 (by decide), if_neg hz, (r22 hs).2, ob, e 221 (by decide), s41]
            refine ((m_tells hs s42 (L / 3) FU 0 (by omega) (FU_gt (by omega))).2 (by rw [e 222 (by decide)]; exact ho)).trans ?_
            rfl
    · refine OP.f0 (c := -100001) I ?_ (fun g e => ?_)
      · unfold f_X8_lay
        rw [f00.1, x_hasTale_t I.x0 n2 ht]
        simp only [ob, i1f, eq_self, if_true, if_false]
        rw [nl4, x_out hb (by decide)]
        simp only [ob, i1f, eq_self, if_true, if_false]
        rfl
      · show f_X9_lay g 217 (nI t) b = _
        unfold f_X9_lay
        rw [m_isTale_t (n := cN (h 218)) (by rw [e 218 (by decide)]; exact v.n.1) n2 ht]
        simp only [ob, i1f, eq_self, if_true, if_false]
        rw [m_isSheet_f hb]
        simp only [ob, i1f, eq_self, if_true, if_false]
        rfl
  · refine OP.f0 (c := -100001) I ?_ (fun g e => ?_)
    · unfold f_X8_lay
      rw [f00.1, x_hasTale_f I.x0 n2 ha]
      simp only [ob, i1f, eq_self, if_true, if_false]
      rfl
    · show f_X9_lay g 217 a b = _
      unfold f_X9_lay
      rw [m_isTale_f (n := cN (h 218)) (by rw [e 218 (by decide)]; exact v.n.1) n2 ha]
      simp only [ob, i1f, eq_self, if_true, if_false]
      rfl
