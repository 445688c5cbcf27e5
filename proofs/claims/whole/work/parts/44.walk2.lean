/-! pair, pairs: both walks meet the same pairs -/
def eM (fa fb : Nat) (mt : Nat → Option Nat) (x : Nat) : Int32 := if x < fa then -1 else match mt (x - fa) with
  | none => -1
  | some j => nI (fb + j)
def mtS (mt : Nat → Option Nat) (i j : Nat) : Nat → Option Nat := fun y => if y = i then some j else mt y
theorem eM_s {fa fb i j x : Nat} {mt : Nat → Option Nat} : eM fa fb (mtS mt i j) x = if x = fa + i then nI (fb + j) else eM fa fb mt x := by
  unfold eM mtS
  by_cases c : x < fa
  · rw [if_pos c, if_pos c, if_neg (by omega)]
  · rw [if_neg c, if_neg c]
    by_cases c2 : x = fa + i
    · rw [if_pos c2]
      simp only [show x - fa = i by omega, if_true]
    · rw [if_neg c2]
      simp only [show ¬ x - fa = i by omega, if_false]
theorem walk {na nb p F L fa fb : Nat} {R W e c : Nat → Nat → Nat} {gx : tkH} (hF : wkF na nb p F L R W e c) (hX : wkX gx na nb p L R e c) (hfa : fa + na ≤ 10) (hfb : fb + nb ≤ 10) : ∀ (s i j paid al left mv : Nat) (me : Bool) (mt : Nat → Option Nat), (na - i) + (nb - j) ≤ s → i ≤ na → j ≤ nb → paid + al * p + left = L → W i j = left → al ≤ i + j → mv ≤ i + j → (∃ E, E ≤ paid + al * p + e i j ∧ L ≤ E ∧ (me = true ↔ E = L)) → (∀ y q, mt y = some q → y < na ∧ q < nb) →
    ∃ mt', (∀ y q, mt' y = some q → y < na ∧ q < nb) ∧
      (∀ n g, s < n → BC 200 gx g → (∀ x, x < na → g 200 x = eS (mt x)) → ∃ hf, BC 200 g hf ∧ (∀ x, x < na → hf 200 x = eS (mt' x)) ∧ f_X4_findPairs_L55 193 n g (nI i) (nI j) (nI paid) (nI al) (bI me) (nI mv) = some hf) ∧
      (∀ gm n g, wkM gm fa fb na nb p R W e c → s < n → BC 225 gm g → (∀ x, x < 10 → g 225 x = eM fa fb mt x) → ∃ hf, BC 225 g hf ∧ (∀ x, x < 10 → hf 225 x = eM fa fb mt' x) ∧ f_X9_findPairs_L90 217 n g (nI left) (nI (fa + i)) (nI (fb + j)) 1 (bI me) = some hf) := by
  obtain ⟨⟨k1, k2, k3, k4, k5, k6⟩, F1, F2, F3, F4, F5⟩ := id hF
  intro s
  induction s with
  | zero =>
    intro i j paid al left mv me mt h1 h2 h3 h4 h5 h6 h7 h8 h9
    have := F3 i j h2 h3 (by omega)
    omega
  | succ s ih =>
    intro i j paid al left mv me mt h1 h2 h3 h4 h5 h6 h7 ⟨E, e1, e2, e3⟩ h9
    have hi : i < na := by
      refine Nat.lt_of_not_le (fun q => ?_)
      have := F3 i j h2 h3 (by omega)
      omega
    have hj : j < nb := by
      refine Nat.lt_of_not_le (fun q => ?_)
      have := F3 i j h2 h3 (by omega)
      omega
    obtain ⟨f1, f2, f3⟩ := F2 i j hi hj
    have g0 := F1 i j h2 h3
    have g1 := F1 (i + 1) (j + 1) (by omega) (by omega)
    have g2 := F1 (i + 1) j (by omega) h3
    have g3 := F1 i (j + 1) h2 (by omega)
    have g4 := F4 i j hi h3
    have g5 := F5 i j h2 hj
    have sm : (al + 1) * p = al * p + p := Nat.succ_mul al p
    have zm : 0 * p = 0 := Nat.zero_mul p
    have Rij : R i j = left := by omega
    by_cases q1 : c i j + R (i + 1) (j + 1) = left
    · have hmt : ∀ y q, mtS mt i j y = some q → y < na ∧ q < nb := by
        intro y q hy
        unfold mtS at hy
        by_cases cy : y = i
        · rw [if_pos cy] at hy
          cases hy
          exact ⟨by omega, hj⟩
        · rw [if_neg cy] at hy
          exact h9 y q hy
      have xs : ∀ g : tkH, (∀ x, x < na → g 200 x = eS (mt x)) → ∀ x, x < na → tkup g 200 i (nI j) 200 x = eS (mtS mt i j x) := by
        intro g hm x hx
        unfold mtS
        by_cases cy : x = i
        · rw [if_pos cy, cy, up_s]
          rfl
        · rw [if_neg cy, up_i cy]
          exact hm x hx
      have ms : ∀ g : tkH, (∀ x, x < 10 → g 225 x = eM fa fb mt x) → ∀ x, x < 10 → tkup g 225 (fa + i) (nI (fb + j)) 225 x = eM fa fb (mtS mt i j) x := by
        intro g hm x hx
        rw [eM_s]
        by_cases cy : x = fa + i
        · rw [if_pos cy, cy, up_s]
        · rw [if_neg cy, up_i cy]
          exact hm x hx
      by_cases q2 : W (i + 1) (j + 1) = left - c i j
      · obtain ⟨mt', a1, a2, a3⟩ := ih (i + 1) (j + 1) (paid + al * p + c i j) 0 (left - c i j) (mv + 1) (decide (paid + al * p + c i j + e (i + 1) (j + 1) = L)) (mtS mt i j) (by omega) (by omega) (by omega) (by omega) q2 (by omega) (by omega) ⟨paid + al * p + c i j + e (i + 1) (j + 1), by omega, by omega, by rw [decide_eq_true_iff]⟩ hmt
        refine ⟨mt', a1, fun n g hn hg hm => ?_, fun gm n g hM hn hg hm => ?_⟩
        · obtain ⟨n', rfl⟩ : ∃ n', n = n' + 1 := ⟨n - 1, by omega⟩
          obtain ⟨hf, b1, b2, b3⟩ := a2 n' (tkup g 200 i (nI j)) (by omega) (fun q h => by rw [up_a h, hg q h]) (xs g hm)
          refine ⟨hf, fun q h => by rw [b1 q h, up_a h], b2, ?_⟩
          rw [x_pst hF hX hg hi hj (by omega) (by omega) h7, if_pos (by omega)]
          exact b3
        · obtain ⟨n', rfl⟩ : ∃ n', n = n' + 1 := ⟨n - 1, by omega⟩
          obtain ⟨hf, b1, b2, b3⟩ := a3 gm n' (tkup g 225 (fa + i) (nI (fb + j))) hM (by omega) (fun q h => by rw [up_a h, hg q h]) (ms g hm)
          refine ⟨hf, fun q h => by rw [b1 q h, up_a h], b2, ?_⟩
          have ed : decide (e (i + 1) (j + 1) = left - c i j) = decide (paid + al * p + c i j + e (i + 1) (j + 1) = L) := by
            rw [decide_eq_decide]
            omega
          rw [m_pst hF hM hfa hfb hg hi hj (by omega) (fun z => absurd q1 z), if_pos q1, bI_t q2, ed]
          exact b3
      · refine ⟨mtS mt i j, hmt, fun n g hn hg hm => ?_, fun gm n g hM hn hg hm => ?_⟩
        · obtain ⟨n', rfl⟩ : ∃ n', n = n' + 1 := ⟨n - 1, by omega⟩
          refine ⟨tkup g 200 i (nI j), fun q h => up_a h, xs g hm, ?_⟩
          rw [x_pst hF hX hg hi hj (by omega) (by omega) h7, if_pos (by omega)]
          exact x_dead hF hX (g := tkup g 200 i (nI j)) (fun q h => by rw [up_a h, hg q h]) s (i + 1) (j + 1) (paid + al * p + c i j) 0 (mv + 1) n' _ (by omega) (by omega) (by omega) (by omega) (by omega) (by omega) (by omega) (by omega)
        · obtain ⟨n', rfl⟩ : ∃ n', n = n' + 2 := ⟨n - 2, by omega⟩
          refine ⟨tkup g 225 (fa + i) (nI (fb + j)), fun q h => up_a h, ms g hm, ?_⟩
          rw [show n' + 2 = n' + 1 + 1 from rfl, m_pst hF hM hfa hfb hg hi hj (by omega) (fun z => absurd q1 z), if_pos q1, bI_f q2, m_pend]
    · by_cases q2 : p + W (i + 1) j = left
      · obtain ⟨mt', a1, a2, a3⟩ := ih (i + 1) j paid (al + 1) (left - p) (mv + 1) me mt (by omega) (by omega) h3 (by omega) (by omega) (by omega) (by omega) ⟨E, by omega, e2, e3⟩ h9
        refine ⟨mt', a1, fun n g hn hg hm => ?_, fun gm n g hM hn hg hm => ?_⟩
        · obtain ⟨n', rfl⟩ : ∃ n', n = n' + 1 := ⟨n - 1, by omega⟩
          obtain ⟨hf, b1, b2, b3⟩ := a2 n' g (by omega) hg hm
          refine ⟨hf, b1, b2, ?_⟩
          rw [x_pst hF hX hg hi hj (by omega) (by omega) h7, if_neg (by omega), if_pos (Or.inr (by omega))]
          exact b3
        · obtain ⟨n', rfl⟩ : ∃ n', n = n' + 1 := ⟨n - 1, by omega⟩
          obtain ⟨hf, b1, b2, b3⟩ := a3 gm n' g hM (by omega) hg hm
          refine ⟨hf, b1, b2, ?_⟩
          rw [m_pst hF hM hfa hfb hg hi hj (by omega) (fun _ z => absurd q2 z), if_neg q1, if_pos q2]
          exact b3
      · by_cases q3 : me = true
        · refine ⟨mt, h9, fun n g hn hg hm => ?_, fun gm n g hM hn hg hm => ?_⟩
          · obtain ⟨n', rfl⟩ : ∃ n', n = n' + 1 := ⟨n - 1, by omega⟩
            refine ⟨g, BC.rf, hm, ?_⟩
            rw [x_pst hF hX hg hi hj (by omega) (by omega) h7, if_neg (by omega), if_pos (Or.inl q3)]
            exact x_dead hF hX hg s (i + 1) j paid (al + 1) (mv + 1) n' me (by omega) (by omega) h3 (by omega) (by omega) (by omega) (by omega) (by omega)
          · obtain ⟨n', rfl⟩ : ∃ n', n = n' + 2 := ⟨n - 2, by omega⟩
            refine ⟨g, BC.rf, hm, ?_⟩
            rw [show n' + 2 = n' + 1 + 1 from rfl, m_pst hF hM hfa hfb hg hi hj (by omega) (fun _ _ z => by rw [q3] at z; exact absurd z (by decide)), if_neg q1, if_neg q2, if_pos q3, m_pend]
        · have nE : ¬ E = L := fun z => q3 (e3.mpr z)
          obtain ⟨mt', a1, a2, a3⟩ := ih i (j + 1) paid (al + 1) (left - p) (mv + 1) me mt (by omega) h2 (by omega) (by omega) (by omega) (by omega) (by omega) ⟨E, by omega, e2, e3⟩ h9
          refine ⟨mt', a1, fun n g hn hg hm => ?_, fun gm n g hM hn hg hm => ?_⟩
          · obtain ⟨n', rfl⟩ : ∃ n', n = n' + 1 := ⟨n - 1, by omega⟩
            obtain ⟨hf, b1, b2, b3⟩ := a2 n' g (by omega) hg hm
            refine ⟨hf, b1, b2, ?_⟩
            rw [x_pst hF hX hg hi hj (by omega) (by omega) h7, if_neg (by omega), if_neg (fun z => by
              rcases z with z | z
              · exact q3 z
              · omega)]
            exact b3
          · obtain ⟨n', rfl⟩ : ∃ n', n = n' + 1 := ⟨n - 1, by omega⟩
            obtain ⟨hf, b1, b2, b3⟩ := a3 gm n' g hM (by omega) hg hm
            refine ⟨hf, b1, b2, ?_⟩
            rw [m_pst hF hM hfa hfb hg hi hj (by omega) (fun _ _ _ => by omega), if_neg q1, if_neg q2, if_neg q3]
            exact b3
theorem walk0 {na nb p F L fa fb : Nat} {R W e c : Nat → Nat → Nat} {gx : tkH} (hF : wkF na nb p F L R W e c) (hX : wkX gx na nb p L R e c) (hfa : fa + na ≤ 10) (hfb : fb + nb ≤ 10) (h0 : R 0 0 = L) :
    ∃ mt', (∀ y q, mt' y = some q → y < na ∧ q < nb) ∧
      (∀ n g, 20 < n → BC 200 gx g → (∀ x, x < na → g 200 x = -1) → ∃ hf, BC 200 g hf ∧ (∀ x, x < na → hf 200 x = eS (mt' x)) ∧ f_X4_findPairs_L55 193 n g 0 0 0 0 (bI (decide (e 0 0 = L))) 0 = some hf) ∧
      (∀ gm n g, wkM gm fa fb na nb p R W e c → 20 < n → BC 225 gm g → (∀ x, x < 10 → g 225 x = -1) → ∃ hf, BC 225 g hf ∧ (∀ x, x < 10 → hf 225 x = eM fa fb mt' x) ∧ f_X9_findPairs_L90 217 n g (nI L) (nI fa) (nI fb) (bI (decide (W 0 0 = L))) (bI (decide (e 0 0 = L))) = some hf) := by
  obtain ⟨⟨k1, k2, k3, k4, k5, k6⟩, F1, F2, F3, F4, F5⟩ := id hF
  have f0 := F1 0 0 (Nat.zero_le _) (Nat.zero_le _)
  have zm : 0 * p = 0 := Nat.zero_mul p
  have em0 : ∀ x, eM fa fb (fun _ => none) x = -1 := fun x => by
    unfold eM
    split <;> rfl
  by_cases q : W 0 0 = L
  · obtain ⟨mt', a1, a2, a3⟩ := walk (fa := fa) (fb := fb) hF hX hfa hfb 20 0 0 0 0 L 0 (decide (e 0 0 = L)) (fun _ => none) (by omega) (Nat.zero_le _) (Nat.zero_le _) (by omega) q (Nat.zero_le _) (Nat.zero_le _) ⟨e 0 0, by omega, by omega, by rw [decide_eq_true_iff]⟩ (fun y q h => by cases h)
    refine ⟨mt', a1, fun n g hn hg hm => ?_, fun gm n g hM hn hg hm => ?_⟩
    · obtain ⟨hf, b1, b2, b3⟩ := a2 n g hn hg hm
      exact ⟨hf, b1, b2, b3⟩
    · obtain ⟨hf, b1, b2, b3⟩ := a3 gm n g hM hn hg (fun x hx => (hm x hx).trans (em0 x).symm)
      rw [bI_t q]
      exact ⟨hf, b1, b2, b3⟩
  · refine ⟨fun _ => none, (fun y q h => by cases h), fun n g hn hg hm => ⟨g, BC.rf, hm, ?_⟩, fun gm n g hM hn hg hm => ⟨g, BC.rf, fun x hx => (hm x hx).trans (em0 x).symm, ?_⟩⟩
    · exact x_dead hF hX hg 20 0 0 0 0 0 n _ (by omega) (Nat.zero_le _) (Nat.zero_le _) (by omega) (by omega) (by omega) hn (by omega)
    · obtain ⟨n', rfl⟩ : ∃ n', n = n' + 1 := ⟨n - 1, by omega⟩
      rw [bI_f q, m_pend]
/-! the tables are such -/
theorem wk_f {f : Nat → Int32} (v : Vd f) {a fa na b fb nb k L : Nat} {ta tb : Bool} (h1 : na ≤ 10) (h2 : nb ≤ 10) (hL : L ≤ 180) : wkF na nb (cQ f 2) FAR L (fun i j => xR f a (fa + na) ta b (fb + nb) tb k (na - i) (nb - j)) (fun i j => mW f a (fa + na) ta b (fb + nb) tb k (na - i) (nb - j)) (fun i j => me f ta tb (na - i) (nb - j)) (fun i j => pq (cQ f 0) (cQ f 1) k (cS f a) (cS f b) (fa + i) (fb + j)) := by
  have q0 := (v.q (j := 0) (by decide)).2
  have q1 := (v.q (j := 1) (by decide)).2
  have q2 := (v.q (j := 2) (by decide)).2
  have hE : ∀ x y, x ≤ 10 → y ≤ 10 → me f ta tb x y ≤ 180 := fun x y hx hy => eq_le q2 ta tb hx hy
  have RE : ∀ x y, x ≤ 10 → y ≤ 10 → xR f a (fa + na) ta b (fb + nb) tb k x y = min (mW f a (fa + na) ta b (fb + nb) tb k x y) (me f ta tb x y) := Rr_eq (fun x y => eq1 _ ta tb x y) (fun x y => eq2 _ ta tb x y) (fun x y hx hy => Nat.lt_of_le_of_lt (hE x y hx hy) (by decide))
  refine ⟨⟨h1, h2, q2, hL, by decide, by decide⟩, fun i j hi hj => ⟨RE _ _ (by omega) (by omega), Wp_le _ _, hE _ _ (by omega) (by omega)⟩, fun i j hi hj => ⟨?_, ?_, ?_⟩, fun i j hi hj h => ?_, fun i j hi hj => ?_, fun i j hi hj => ?_⟩
  · obtain ⟨x, hx⟩ : ∃ x, na - i = x + 1 := ⟨na - i - 1, by omega⟩
    obtain ⟨y, hy⟩ : ∃ y, nb - j = y + 1 := ⟨nb - j - 1, by omega⟩
    show mW f a (fa + na) ta b (fb + nb) tb k (na - i) (nb - j) = min (min (min (pq (cQ f 0) (cQ f 1) k (cS f a) (cS f b) (fa + i) (fb + j) + xR f a (fa + na) ta b (fb + nb) tb k (na - (i + 1)) (nb - (j + 1))) (cQ f 2 + mW f a (fa + na) ta b (fb + nb) tb k (na - (i + 1)) (nb - j))) (cQ f 2 + mW f a (fa + na) ta b (fb + nb) tb k (na - i) (nb - (j + 1)))) FAR
    rw [hx, hy, show na - (i + 1) = x by omega, show nb - (j + 1) = y by omega, RE x y (by omega) (by omega)]
    refine (Wp_ss x y).trans ?_
    show min (min (min (pq (cQ f 0) (cQ f 1) k (cS f a) (cS f b) (fa + na - (x + 1)) (fb + nb - (y + 1)) + _) _) _) FAR = _
    rw [show fa + na - (x + 1) = fa + i by omega, show fb + nb - (y + 1) = fb + j by omega]
  · obtain ⟨x, hx⟩ : ∃ x, na - i = x + 1 := ⟨na - i - 1, by omega⟩
    obtain ⟨y, hy⟩ : ∃ y, nb - j = y + 1 := ⟨nb - j - 1, by omega⟩
    show xR f a (fa + na) ta b (fb + nb) tb k (na - i) (nb - j) ≤ cQ f 2 + xR f a (fa + na) ta b (fb + nb) tb k (na - (i + 1)) (nb - j)
    rw [hx, hy, show na - (i + 1) = x by omega]
    have := Rr_ss (c := mc f a (fa + na) b (fb + nb) k) (e := me f ta tb) (p := cQ f 2) x y
    show Rr (mc f a (fa + na) b (fb + nb) k) (me f ta tb) (cQ f 2) (x + 1) (y + 1) ≤ cQ f 2 + Rr (mc f a (fa + na) b (fb + nb) k) (me f ta tb) (cQ f 2) x (y + 1)
    omega
  · show pq (cQ f 0) (cQ f 1) k (cS f a) (cS f b) (fa + i) (fb + j) ≤ 27
    unfold pq
    have t0 : (if cS f a (fa + i) 0 = cS f b (fb + j) 0 then 0 else cQ f 0) ≤ 9 := by split <;> omega
    have t1 : (if pm k (cS f a (fa + i) 1) = cS f b (fb + j) 1 then 0 else cQ f 1) ≤ 9 := by split <;> omega
    have t2 : (if pm k (cS f a (fa + i) 2) = cS f b (fb + j) 2 then 0 else cQ f 1) ≤ 9 := by split <;> omega
    omega
  · rcases h with h | h
    · show mW f a (fa + na) ta b (fb + nb) tb k (na - i) (nb - j) = FAR
      rw [h, Nat.sub_self]
      exact Wp_0 _
    · show mW f a (fa + na) ta b (fb + nb) tb k (na - i) (nb - j) = FAR
      rw [h, Nat.sub_self]
      exact Wp_x0 _
  · show me f ta tb (na - i) (nb - j) ≤ cQ f 2 + me f ta tb (na - (i + 1)) (nb - j)
    rw [show na - i = na - (i + 1) + 1 by omega]
    exact eq1 _ _ _ _ _
  · show me f ta tb (na - i) (nb - j) ≤ cQ f 2 + me f ta tb (na - i) (nb - (j + 1))
    rw [show nb - j = nb - (j + 1) + 1 by omega]
    exact eq2 _ _ _ _ _
theorem wk_x {gx : tkH} {f : Nat → Int32} {a fa na b fb nb k L : Nat} {ta tb : Bool} (hV : XV f a fa na b fb nb) (hk : k < 24) (hS : XS gx f k a fa na ta b fb nb tb) (hT : TX_ gx f a fa na ta b fb nb tb k 0) (hL : gx 193 8 = nI L) : wkX gx na nb (cQ f 2) L (fun i j => xR f a (fa + na) ta b (fb + nb) tb k (na - i) (nb - j)) (fun i j => me f ta tb (na - i) (nb - j)) (fun i j => pq (cQ f 0) (cQ f 1) k (cS f a) (cS f b) (fa + i) (fb + j)) := by
  intro g hg
  obtain ⟨s1, s2, s3, s4⟩ := hS
  obtain ⟨v, ha, hb, hna, hnb⟩ := hV
  have P : XP g f := by unfold XP; rw [hg 193 (by decide)]; exact s1
  have C : XC g f k a fa na := by unfold XC; rw [hg 198 (by decide)]; exact s2
  have A : RW g 194 f a fa na ta := s3.keep (hg 194 (by decide)) (hg 195 (by decide))
  have B : RW g 196 f b fb nb tb := s4.keep (hg 196 (by decide)) (hg 197 (by decide))
  refine ⟨⟨A.1, B.1, P.2.2, by rw [hg 193 (by decide)]; exact hL⟩, fun i j hi hj => x_pairPrice v ha hb hna hnb hk P C B hi hj, fun i j hi hj => ⟨x_endPrice P A B hi hj, ?_⟩⟩
  rw [hg 199 (by decide)]
  exact hT i j (Nat.zero_le _) hi hj
theorem wk_m {gm : tkH} {f : Nat → Int32} {a fa na b fb nb k : Nat} {ta tb : Bool} (e : gm 218 = f) (hk : k < 24) (hV : MV f a (fa + na) b (fb + nb)) (hS : MS gm a fa (fa + na) ta b fb (fb + nb) tb) (hC : MC gm k) (hT : TM gm f a (fa + na) ta b fb (fb + nb) tb k fa) : wkM gm fa fb na nb (cQ f 2) (fun i j => xR f a (fa + na) ta b (fb + nb) tb k (na - i) (nb - j)) (fun i j => mW f a (fa + na) ta b (fb + nb) tb k (na - i) (nb - j)) (fun i j => me f ta tb (na - i) (nb - j)) (fun i j => pq (cQ f 0) (cQ f 1) k (cS f a) (cS f b) (fa + i) (fb + j)) := by
  intro g hg
  have b10 := hV.b10
  have v := hV.1
  have q2 := v.q (j := 2) (by decide)
  have eg : g 218 = f := (hg 218 (by decide)).trans e
  have S : MS g a fa (fa + na) ta b fb (fb + nb) tb := hS.bc (hg 217 (by decide))
  have C : MC g k := hC.bc (hg 223 (by decide))
  have V : MV (g 218) a (fa + na) b (fb + nb) := by rw [eg]; exact hV
  have RE : ∀ x y, x ≤ 10 → y ≤ 10 → xR f a (fa + na) ta b (fb + nb) tb k x y = min (mW f a (fa + na) ta b (fb + nb) tb k x y) (me f ta tb x y) := Rr_eq (fun x y => eq1 _ ta tb x y) (fun x y => eq2 _ ta tb x y) (fun x y hx hy => Nat.lt_of_le_of_lt (eq_le q2.2 ta tb hx hy) (by decide))
  have r3 : rdI g 218 3 = some (nI (cQ f 2)) := (r218 (k := 3) (by decide)).trans (by rw [eg]; exact congrArg some q2.1)
  refine ⟨⟨S.2.2.1, S.2.2.2.2.2.2.1, r3⟩, fun i j hi hj => ?_, fun i j hi hj => ⟨?_, ?_, ?_⟩⟩
  · have z := m_pairCost (i := fa + i) (j := fb + j) S V C hk (by omega) (by omega)
    rw [eg] at z
    exact z
  · have z := m_endCost (i := fa + i) (j := fb + j) S V (by omega) (by omega)
    rw [eg, show fa + na - (fa + i) = na - i by omega, show fb + nb - (fb + j) = nb - j by omega] at z
    exact z
  · have t := hT (fa + i) (fb + j) (by omega) (by omega) (by omega) (by omega)
    rw [show fa + na - (fa + i) = na - i by omega, show fb + nb - (fb + j) = nb - j by omega] at t
    rw [m_pairsLeft (by omega) (by omega), hg 224 (by decide), t]
  · have t := hT (fa + i) (fb + j) (by omega) (by omega) (by omega) (by omega)
    rw [show fa + na - (fa + i) = na - i by omega, show fb + nb - (fb + j) = nb - j by omega] at t
    have z := m_leastFrom (i := fa + i) (j := fb + j) S V (by omega) (by omega) (by rw [hg 224 (by decide)]; exact t) (Wp_le _ _)
    rw [eg, show fa + na - (fa + i) = na - i by omega, show fb + nb - (fb + j) = nb - j by omega] at z
    show f_X9_leastFrom g 217 (nI (fa + i)) (nI (fb + j)) = some (nI (xR f a (fa + na) ta b (fb + nb) tb k (na - i) (nb - j)), g)
    rw [RE _ _ (by omega) (by omega)]
    exact z
