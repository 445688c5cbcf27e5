/-! pair, pairs: the walk through THE LAYING; i, j: STEPS of a and b behind us; R: the least from there, W: with a pair yet, e: without, c: a pair's price -/
def wkF (na nb p F L : Nat) (R W e c : Nat → Nat → Nat) : Prop :=
  (na ≤ 10 ∧ nb ≤ 10 ∧ p ≤ 9 ∧ L ≤ 180 ∧ 180 < F ∧ F < 2 ^ 30) ∧
  (∀ i j, i ≤ na → j ≤ nb → R i j = min (W i j) (e i j) ∧ W i j ≤ F ∧ e i j ≤ 180) ∧
  (∀ i j, i < na → j < nb → W i j = min (min (min (c i j + R (i + 1) (j + 1)) (p + W (i + 1) j)) (p + W i (j + 1))) F ∧ R i j ≤ p + R (i + 1) j ∧ c i j ≤ 27) ∧
  (∀ i j, i ≤ na → j ≤ nb → i = na ∨ j = nb → W i j = F) ∧
  (∀ i j, i < na → j ≤ nb → e i j ≤ p + e (i + 1) j) ∧ ∀ i j, i ≤ na → j < nb → e i j ≤ p + e i (j + 1)
def wkX (gx : tkH) (na nb p L : Nat) (R e c : Nat → Nat → Nat) : Prop := ∀ g, BC 200 gx g → (g 194 1 = nI na ∧ g 196 1 = nI nb ∧ g 193 7 = nI p ∧ g 193 8 = nI L) ∧ (∀ i j, i < na → j < nb → f_X4_pairPrice g 193 (nI i) (nI j) = some (nI (c i j), g)) ∧ ∀ i j, i ≤ na → j ≤ nb → f_X4_endPrice g 193 (nI i) (nI j) = some (nI (e i j), g) ∧ g 199 (11 * i + j) = nI (R i j)
def wkM (gm : tkH) (fa fb na nb p : Nat) (R W e c : Nat → Nat → Nat) : Prop := ∀ g, BC 225 gm g → (g 217 10 = nI (fa + na) ∧ g 217 14 = nI (fb + nb) ∧ rdI g 218 3 = some (nI p)) ∧ (∀ i j, i < na → j < nb → f_X9_pairCost g 217 (nI (fa + i)) (nI (fb + j)) = some (nI (c i j), g)) ∧ ∀ i j, i ≤ na → j ≤ nb → f_X9_endCost g 217 (nI (fa + i)) (nI (fb + j)) = some (nI (e i j), g) ∧ f_X9_pairsLeft g 217 (nI (fa + i)) (nI (fb + j)) = some (nI (W i j), g) ∧ f_X9_leastFrom g 217 (nI (fa + i)) (nI (fb + j)) = some (nI (R i j), g)
theorem al_le {al p : Nat} (h1 : al ≤ 20) (h2 : p ≤ 9) : al * p ≤ 180 := Nat.le_trans (Nat.mul_le_mul h1 h2) (by decide)
theorem bI_t {P : Prop} {i : Decidable P} (h : P) : bI (decide P) = 1 := by rw [decide_eq_true h]; rfl
theorem bI_f {P : Prop} {i : Decidable P} (h : ¬ P) : bI (decide P) = 0 := by rw [decide_eq_false h]; rfl
theorem x_pst {na nb p F L : Nat} {R W e c : Nat → Nat → Nat} {gx : tkH} (hF : wkF na nb p F L R W e c) (hX : wkX gx na nb p L R e c) {g : tkH} (hg : BC 200 gx g) {i j paid al mv n : Nat} {me : Bool} (hi : i < na) (hj : j < nb) (hp : paid ≤ 180) (ha : al ≤ 20) (hm : mv ≤ i + j) :
    f_X4_findPairs_L55 193 (n + 1) g (nI i) (nI j) (nI paid) (nI al) (bI me) (nI mv) = if paid + al * p + c i j + R (i + 1) (j + 1) = L then f_X4_findPairs_L55 193 n (tkup g 200 i (nI j)) (nI (i + 1)) (nI (j + 1)) (nI (paid + al * p + c i j)) 0 (bI (decide (paid + al * p + c i j + e (i + 1) (j + 1) = L))) (nI (mv + 1)) else if me = true ∨ paid + al * p + p + R (i + 1) j = L then f_X4_findPairs_L55 193 n g (nI (i + 1)) (nI j) (nI paid) (nI (al + 1)) (bI me) (nI (mv + 1)) else f_X4_findPairs_L55 193 n g (nI i) (nI (j + 1)) (nI paid) (nI (al + 1)) (bI me) (nI (mv + 1)) := by
  have l199 : ln 199 = 121 := by simp only [LN]
  have l200 : ln 200 = 10 := by simp only [LN]
  obtain ⟨⟨k1, k2, k3, k4, k5, k6⟩, F1, F2, -, -, -⟩ := hF
  obtain ⟨⟨s1, s2, s3, s4⟩, s5, s6⟩ := hX g hg
  have r1 := F1 (i + 1) (j + 1) (by omega) (by omega)
  have r2 := F1 (i + 1) j (by omega) (by omega)
  have c1 := (F2 i j hi hj).2.2
  have al1 := al_le ha k3
  have w2 : (nI i + 1) * 11 + nI j = nI (11 * (i + 1) + j) := by rw [nI_1, nl11, pk_mul, nI_add, show (i + 1) * 11 + j = 11 * (i + 1) + j by omega]
  rw [f_X4_findPairs_L55_s, if_neg (show ¬ (20 : Int32) ≤ nI mv by rw [nl20, nI_leI (by omega) (by omega)]; omega), show fld 193 0 = 194 by simp only [FL], show fld 193 1 = 196 by simp only [FL], show fld 193 3 = 199 by simp only [FL], show fld 193 4 = 200 by simp only [FL], s1, s2, s3, if_neg (show ¬ nI na ≤ nI i from nI_ge hi (by omega)), if_neg (show ¬ nI nb ≤ nI j from nI_ge hj (by omega)), s5 i j hi hj, ob]
  simp only []
  rw [w2, nI_1, rdI_n (by omega) (by omega), ob, show 11 * (i + 1) + j + 1 = 11 * (i + 1) + (j + 1) from rfl, (s6 (i + 1) (j + 1) (by omega) (by omega)).2, s4, s3, pk_mul, nI_add, nI_add, nI_add, nI_inj_if (by omega) (by omega)]
  by_cases q1 : paid + al * p + c i j + R (i + 1) (j + 1) = L
  · have hg' : BC 200 gx (tkup g 200 i (nI j)) := fun q h => by rw [up_a h, hg q h]
    obtain ⟨⟨t1, t2, t3, t4⟩, t5, t6⟩ := hX _ hg'
    rw [if_pos q1, if_pos q1, s5 i j hi hj, ob]
    simp only []
    rw [wrI_n (by omega) (by omega), ob, nI_1, nI_1, nI_1, (t6 (i + 1) (j + 1) (by omega) (by omega)).1, ob]
    simp only []
    rw [t4, nI_add, nI_add, nI_inj_if (by omega) (by omega)]
    by_cases q2 : paid + al * p + c i j + e (i + 1) (j + 1) = L
    · rw [if_pos q2, bI_t q2]
    · rw [if_neg q2, bI_f q2]
  · rw [if_neg q1, if_neg q1, nI_1, nI_1, nI_1, nI_1]
    cases me with
    | true =>
      rw [if_neg (show ¬ bI true = 0 by decide), if_pos (Or.inl rfl)]
    | false =>
      rw [if_pos (show bI false = 0 from rfl), rdI_n (by omega) (by omega), ob, (s6 (i + 1) j (by omega) (by omega)).2, nI_add, nI_add, nI_inj_if (by omega) (by omega)]
      by_cases q2 : paid + al * p + p + R (i + 1) j = L
      · rw [if_pos q2, if_pos (Or.inr q2)]
      · rw [if_neg q2, if_neg (fun z => by
          rcases z with z | z
          · exact absurd z (by decide)
          · exact q2 z)]
theorem x_pend {na nb p F L : Nat} {R W e c : Nat → Nat → Nat} {gx : tkH} (hF : wkF na nb p F L R W e c) (hX : wkX gx na nb p L R e c) {g : tkH} (hg : BC 200 gx g) {i j n : Nat} {x y z w : Int32} (hi : i ≤ na) (hj : j ≤ nb) (h : i = na ∨ j = nb) :
    f_X4_findPairs_L55 193 (n + 1) g (nI i) (nI j) x y z w = some g := by
  obtain ⟨⟨k1, k2, k3, k4, k5, k6⟩, -⟩ := hF
  obtain ⟨⟨s1, s2, s3, s4⟩, s5, s6⟩ := hX g hg
  rw [f_X4_findPairs_L55_s, show fld 193 0 = 194 by simp only [FL], show fld 193 1 = 196 by simp only [FL], s1, s2]
  by_cases q0 : (20 : Int32) ≤ w
  · rw [if_pos q0]
  · rw [if_neg q0]
    by_cases q1 : nI na ≤ nI i
    · rw [if_pos q1]
    · rw [if_neg q1]
      rw [nI_leI (by omega) (by omega)] at q1
      rw [if_pos (by rw [nI_leI (by omega) (by omega)]; omega)]
/-- no pair comes any more -/
theorem x_dead {na nb p F L : Nat} {R W e c : Nat → Nat → Nat} {gx : tkH} (hF : wkF na nb p F L R W e c) (hX : wkX gx na nb p L R e c) {g : tkH} (hg : BC 200 gx g) : ∀ (s i j paid al mv n : Nat) (me : Bool), (na - i) + (nb - j) ≤ s → i ≤ na → j ≤ nb → paid ≤ 180 → al ≤ i + j → mv ≤ i + j → s < n → L < paid + al * p + W i j → f_X4_findPairs_L55 193 n g (nI i) (nI j) (nI paid) (nI al) (bI me) (nI mv) = some g := by
  obtain ⟨⟨k1, k2, k3, k4, k5, k6⟩, F1, F2, F3, F4, F5⟩ := id hF
  intro s
  induction s with
  | zero =>
    intro i j paid al mv n me h1 h2 h3 h4 h5 h6 h7 h8
    obtain ⟨n', rfl⟩ : ∃ n', n = n' + 1 := ⟨n - 1, by omega⟩
    exact x_pend hF hX hg h2 h3 (by omega)
  | succ s ih =>
    intro i j paid al mv n me h1 h2 h3 h4 h5 h6 h7 h8
    obtain ⟨n', rfl⟩ : ∃ n', n = n' + 1 := ⟨n - 1, by omega⟩
    by_cases q : i = na ∨ j = nb
    · exact x_pend hF hX hg h2 h3 q
    · have hi : i < na := by omega
      have hj : j < nb := by omega
      have f2 := F2 i j hi hj
      have sm : (al + 1) * p = al * p + p := Nat.succ_mul al p
      rw [x_pst hF hX hg hi hj h4 (by omega) h6, if_neg (by omega)]
      by_cases q2 : me = true ∨ paid + al * p + p + R (i + 1) j = L
      · rw [if_pos q2]
        exact ih (i + 1) j paid (al + 1) (mv + 1) n' me (by omega) (by omega) h3 h4 (by omega) (by omega) (by omega) (by omega)
      · rw [if_neg q2]
        exact ih i (j + 1) paid (al + 1) (mv + 1) n' me (by omega) h2 (by omega) h4 (by omega) (by omega) (by omega) (by omega)
theorem m_pst {na nb p F L fa fb : Nat} {R W e c : Nat → Nat → Nat} {gm : tkH} (hF : wkF na nb p F L R W e c) (hM : wkM gm fa fb na nb p R W e c) (hfa : fa + na ≤ 10) (hfb : fb + nb ≤ 10) {g : tkH} (hg : BC 225 gm g) {i j left n : Nat} {me : Bool} (hi : i < na) (hj : j < nb) (hl : left ≤ 180) (h4 : ¬ c i j + R (i + 1) (j + 1) = left → ¬ p + W (i + 1) j = left → me = false → p ≤ left) :
    f_X9_findPairs_L90 217 (n + 1) g (nI left) (nI (fa + i)) (nI (fb + j)) 1 (bI me) = if c i j + R (i + 1) (j + 1) = left then f_X9_findPairs_L90 217 n (tkup g 225 (fa + i) (nI (fb + j))) (nI (left - c i j)) (nI (fa + (i + 1))) (nI (fb + (j + 1))) (bI (decide (W (i + 1) (j + 1) = left - c i j))) (bI (decide (e (i + 1) (j + 1) = left - c i j))) else if p + W (i + 1) j = left then f_X9_findPairs_L90 217 n g (nI (left - p)) (nI (fa + (i + 1))) (nI (fb + j)) 1 (bI me) else if me = true then f_X9_findPairs_L90 217 n g (nI left) (nI (fa + i)) (nI (fb + j)) 0 (bI me) else f_X9_findPairs_L90 217 n g (nI (left - p)) (nI (fa + i)) (nI (fb + (j + 1))) 1 (bI me) := by
  have l225 : ln 225 = 10 := by simp only [LN]
  obtain ⟨⟨k1, k2, k3, k4, k5, k6⟩, F1, F2, -, -, -⟩ := hF
  obtain ⟨⟨s1, s2, s3⟩, s5, s6⟩ := hM g hg
  have r1 := F1 (i + 1) (j + 1) (by omega) (by omega)
  have r2 := F1 (i + 1) j (by omega) (by omega)
  have c1 := (F2 i j hi hj).2.2
  have w1 : nI (fa + i) + 1 = nI (fa + (i + 1)) := nI_1 (fa + i)
  have w2 : nI (fb + j) + 1 = nI (fb + (j + 1)) := nI_1 (fb + j)
  rw [f_X9_findPairs_L90_s, if_neg i01, s1, s2, if_neg (show ¬ nI (fa + na) ≤ nI (fa + i) from nI_ge (by omega) (by omega)), if_neg (show ¬ nI (fb + nb) ≤ nI (fb + j) from nI_ge (by omega) (by omega)), s5 i j hi hj, ob]
  simp only []
  rw [w1, w2, (s6 (i + 1) (j + 1) (by omega) (by omega)).2.2, ob]
  simp only []
  rw [nI_add, nI_inj_if (by omega) (by omega)]
  by_cases q1 : c i j + R (i + 1) (j + 1) = left
  · have hg' : BC 225 gm (tkup g 225 (fa + i) (nI (fb + j))) := fun q h => by rw [up_a h, hg q h]
    obtain ⟨⟨t1, t2, t3⟩, t5, t6⟩ := hM _ hg'
    have t7 := t6 (i + 1) (j + 1) (by omega) (by omega)
    rw [if_pos q1, if_pos q1, s5 i j hi hj, ob]
    simp only []
    rw [show fld 217 18 = 225 by simp only [FL], wrI_n (by omega) (by omega), ob, t7.2.1, ob]
    unfold f_X9_findPairs_J181
    simp only []
    rw [nI_sub (show c i j ≤ left by omega), w1, w2, t7.1, nI_inj_if (by omega) (by omega)]
    by_cases q2 : W (i + 1) (j + 1) = left - c i j
    · rw [if_pos q2, bI_t q2, ob]
      rw [nI_inj_if (by omega) (by omega)]
      by_cases q3 : e (i + 1) (j + 1) = left - c i j
      · rw [if_pos q3, bI_t q3]
      · rw [if_neg q3, bI_f q3]
    · rw [if_neg q2, bI_f q2, ob]
      rw [nI_inj_if (by omega) (by omega)]
      by_cases q3 : e (i + 1) (j + 1) = left - c i j
      · rw [if_pos q3, bI_t q3]
      · rw [if_neg q3, bI_f q3]
  · rw [if_neg q1, if_neg q1]
    unfold f_X9_findPairs_J205
    rw [s1, if_neg (show ¬ nI (fa + na) ≤ nI (fa + i) from nI_ge (by omega) (by omega)), show fld 217 0 = 218 by simp only [FL], s3, ob, w1, (s6 (i + 1) j (by omega) (by omega)).2.1, ob]
    simp only []
    rw [nI_add, nI_inj_if (by omega) (by omega)]
    by_cases q2 : p + W (i + 1) j = left
    · rw [if_pos q2, if_pos q2, s3, ob, nI_sub (by omega)]
    · rw [if_neg q2, if_neg q2]
      unfold f_X9_findPairs_J250 f_X9_findPairs_J270
      rw [s1, if_neg (show ¬ nI (fa + na) ≤ nI (fa + i) from nI_ge (by omega) (by omega)), show fld 217 0 = 218 by simp only [FL], s3, ob, w2]
      cases me with
      | true => rw [if_neg (show ¬ bI true = 0 by decide), if_pos rfl]
      | false => rw [if_pos (show bI false = 0 from rfl), if_neg (by decide), nI_sub (h4 q1 q2 rfl)]
theorem m_pend {g : tkH} {n : Nat} {x y z w : Int32} : f_X9_findPairs_L90 217 (n + 1) g x y z 0 w = some g := by
  rw [f_X9_findPairs_L90_s, if_pos rfl]
