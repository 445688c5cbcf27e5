/-! pair, pairs: the calls -/
theorem m_withinR {g : tkH} {i p q : Nat} (hi : i < 2 ^ 31) (hp : p < 2 ^ 31) (hq : q < 2 ^ 31) : f_X9_within g (nI i) (nI p) (nI q) = some (if p ≤ i ∧ i ≤ q then 1 else 0, g) := by
  unfold f_X9_within
  by_cases c1 : i < p
  · rw [if_pos (by rw [nI_ltI hi hp]; exact c1), if_neg (by omega)]
  · rw [if_neg (by rw [nI_ltI hi hp]; exact c1)]
    by_cases c2 : q < i
    · rw [if_pos (by rw [nI_ltI hq hi]; exact c2), if_neg (by omega)]
    · rw [if_neg (by rw [nI_ltI hq hi]; exact c2), if_pos (by omega)]
theorem op_pair {h : tkH} (I : Inv h) (a b c : Int32) : OP (f_X8_pair h 0 a b c) (fun g => f_X9_pair g 217 a b c) := by
  have v := I.1
  have n2 := v.n.2
  have l200 : ln 200 = 10 := by simp only [LN]
  have l225 : ln 225 = 10 := by simp only [LN]
  by_cases hA : ∃ t i, t < cN (h 218) ∧ i < cL (h 218) t ∧ a = nI t ∧ c = nI i
  · obtain ⟨t, i, ht, hi, rfl, rfl⟩ := hA
    by_cases hb : ∃ u, u < cN (h 218) ∧ b = nI u
    · obtain ⟨u, hu, rfl⟩ := hb
      have l := (v.l ht).2
      have lu := (v.l hu).2
      have ra := fr_le (f := h 218) (t := t)
      have rb := fr_le (f := h 218) (t := u)
      have r1 : fr (h 218) t ≤ 1 := by unfold fr; split <;> omega
      have et : to_ (h 218) t = cL (h 218) t - fr (h 218) t := rfl
      have tp : 1 ≤ to_ (h 218) t := by
        have : fr (h 218) t = 0 ∨ 2 ≤ cL (h 218) t := by
          unfold fr
          by_cases q : cK (h 218) t = 2 ∧ 2 ≤ cL (h 218) t
          · exact Or.inr q.2
          · rw [if_neg q]
            exact Or.inl rfl
        omega
      by_cases hc : fr (h 218) t ≤ i ∧ i < to_ (h 218) t
      · obtain ⟨mt, hx, p1, p2, p3, p4, p5, p6, p7⟩ := pairs_both I.2.1 v ht hu
        have e218 : hx 218 = h 218 := p2 218 (by omega)
        obtain ⟨hf, q1, q2, q3⟩ := p7 hx e218
        have eX : hx 200 (i - fr (h 218) t) = eS (mt (i - fr (h 218) t)) := p4 _ (by omega)
        have eY : hf 225 i = eM (fr (h 218) t) (fr (h 218) u) mt i := q2 i (by omega)
        refine OP.q (h1 := hx) (h2 := hf) (r := eM (fr (h 218) t) (fr (h 218) u) mt i) I ?_ ?_ p2.p (I.2.2.2.2.1.keep p2.c) q1
        · unfold f_X8_pair
          rw [f00.1, x_hasStep_t I ht hi]
          simp only [ob, i1f, eq_self, if_true, if_false]
          rw [x_hasTale_t I.x0 n2 hu]
          simp only [ob, i1f, eq_self, if_true, if_false]
          rw [x_firstLaid I.2.1 v ht, ob]
          simp only []
          rw [x_laidLength I.2.1 v ht, ob]
          simp only []
          rw [nI_sub hc.1, x_in (show i - fr (h 218) t < to_ (h 218) t - fr (h 218) t by omega) (by omega)]
          simp only [ob, i1f, eq_self, if_true, if_false]
          rw [f00.2.2.1, p3, ob, show gk (193, hx).1 7 = some () from by unfold gk; rw [if_pos KD.2], ob]
          simp only []
          rw [show fld 193 4 = 200 by simp only [FL], rdI_n (by omega) (by omega), ob, eX]
          unfold eM
          rw [if_neg (show ¬ i < fr (h 218) t by omega)]
          cases em : mt (i - fr (h 218) t) with
          | none => rw [if_neg (eS_neg rfl)]
          | some j =>
            have pj := p1 _ _ em
            rw [if_pos (eS_pos rfl (show j < 2 ^ 31 by omega)), x_firstLaid (I.2.1.xf p2) v hu, ob]
            simp only []
            rw [show eS (some j) = nI j from rfl, nI_add, Nat.add_comm]
        · show f_X9_pair hx 217 (nI t) (nI u) (nI i) = _
          unfold f_X9_pair
          rw [m_isTale_t (n := cN (h 218)) (by rw [e218]; exact v.n.1) n2 ht]
          simp only [ob, i1f, eq_self, if_true, if_false]
          rw [m_isTale_t (n := cN (h 218)) (by rw [e218]; exact v.n.1) n2 hu]
          simp only [ob, i1f, eq_self, if_true, if_false]
          rw [m_isStep_t v e218 ht hi]
          simp only [ob, i1f, eq_self, if_true, if_false]
          rw [m_laidFrom (by rw [e218]; exact v) (by rw [e218]; exact ht), ob]
          simp only []
          rw [m_laidTo (by rw [e218]; exact v) (by rw [e218]; exact ht), ob]
          simp only []
          rw [e218, nI_m1 tp, m_withinR (by omega) (by omega) (by omega), if_pos (by omega)]
          simp only [ob, i1f, eq_self, if_true, if_false]
          rw [q3, ob, show fld 217 18 = 225 by simp only [FL], rdI_n (by omega) (by omega), ob, eY]
      · refine OP.f0 (c := -100004) I ?_ (fun g e => ?_)
        · unfold f_X8_pair
          rw [f00.1, x_hasStep_t I ht hi]
          simp only [ob, i1f, eq_self, if_true, if_false]
          rw [x_hasTale_t I.x0 n2 hu]
          simp only [ob, i1f, eq_self, if_true, if_false]
          rw [x_firstLaid I.2.1 v ht, ob]
          simp only []
          rw [x_laidLength I.2.1 v ht, ob]
          simp only []
          rw [x_out (n := to_ (h 218) t - fr (h 218) t) (by
            rintro ⟨y, hy, ey⟩
            by_cases c1 : fr (h 218) t ≤ i
            · rw [nI_sub c1] at ey
              have := (nI_eq (by omega) (by omega)).mp ey
              omega
            · have z1 : fr (h 218) t = 1 := by omega
              have z0 : i = 0 := by omega
              rw [z1, z0] at ey
              exact nI_neg_one y (by omega) (ey.symm.trans (by decide))) (by omega)]
          simp only [ob, i1f, eq_self, if_true, if_false]
          rfl
        · show f_X9_pair g 217 (nI t) (nI u) (nI i) = _
          have e218 : g 218 = h 218 := e 218 (by decide)
          unfold f_X9_pair
          rw [m_isTale_t (n := cN (h 218)) (by rw [e218]; exact v.n.1) n2 ht]
          simp only [ob, i1f, eq_self, if_true, if_false]
          rw [m_isTale_t (n := cN (h 218)) (by rw [e218]; exact v.n.1) n2 hu]
          simp only [ob, i1f, eq_self, if_true, if_false]
          rw [m_isStep_t v e218 ht hi]
          simp only [ob, i1f, eq_self, if_true, if_false]
          rw [m_laidFrom (by rw [e218]; exact v) (by rw [e218]; exact ht), ob]
          simp only []
          rw [m_laidTo (by rw [e218]; exact v) (by rw [e218]; exact ht), ob]
          simp only []
          rw [e218, nI_m1 tp, m_withinR (by omega) (by omega) (by omega), if_neg (by omega)]
          simp only [ob, i1f, eq_self, if_true, if_false]
          rfl
    · refine OP.f0 (c := -100001) I ?_ (fun g e => ?_)
      · unfold f_X8_pair
        rw [f00.1, x_hasStep_t I ht hi]
        simp only [ob, i1f, eq_self, if_true, if_false]
        rw [x_hasTale_f I.x0 n2 hb]
        simp only [ob, i1f, eq_self, if_true, if_false]
        rfl
      · show f_X9_pair g 217 (nI t) b (nI i) = _
        unfold f_X9_pair
        rw [m_isTale_t (n := cN (h 218)) (by rw [e 218 (by decide)]; exact v.n.1) n2 ht]
        simp only [ob, i1f, eq_self, if_true, if_false]
        rw [m_isTale_f (n := cN (h 218)) (by rw [e 218 (by decide)]; exact v.n.1) n2 hb]
        simp only [ob, i1f, eq_self, if_true, if_false]
        rfl
  · refine OP.f0 (c := -100001) I ?_ (fun g e => ?_)
    · unfold f_X8_pair
      rw [f00.1, x_hasStep_f I hA]
      simp only [ob, i1f, eq_self, if_true, if_false]
      rfl
    · show f_X9_pair g 217 a b c = _
      unfold f_X9_pair
      by_cases ha : ∃ t, t < cN (h 218) ∧ a = nI t
      · obtain ⟨t, ht, rfl⟩ := id ha
        rw [m_isTale_t (n := cN (h 218)) (by rw [e 218 (by decide)]; exact v.n.1) n2 ht]
        simp only [ob, i1f, eq_self, if_true, if_false]
        by_cases hb : ∃ t, t < cN (h 218) ∧ b = nI t
        · obtain ⟨u, hu, rfl⟩ := hb
          rw [m_isTale_t (n := cN (h 218)) (by rw [e 218 (by decide)]; exact v.n.1) n2 hu]
          simp only [ob, i1f, eq_self, if_true, if_false]
          rw [m_isStep_f v (e 218 (by decide)) hA]
          simp only [ob, i1f, eq_self, if_true, if_false]
          rfl
        · rw [m_isTale_f (n := cN (h 218)) (by rw [e 218 (by decide)]; exact v.n.1) n2 hb]
          simp only [ob, i1f, eq_self, if_true, if_false]
          rfl
      · rw [m_isTale_f (n := cN (h 218)) (by rw [e 218 (by decide)]; exact v.n.1) n2 ha]
        simp only [ob, i1f, eq_self, if_true, if_false]
        rfl
/-! how many pairs -/
def pqB (f : Nat → Int32) (a b : Nat) (mt : Nat → Option Nat) (d : Int32) (i : Nat) : Bool := match mt i with
  | none => false
  | some j => decide (d = 0) || decide (cS f a (fr f a + i) 0 = cS f b (fr f b + j) 0)
def pqM (f : Nat → Int32) (a b : Nat) (mt : Nat → Option Nat) (d : Int32) (x : Nat) : Bool := decide (fr f a ≤ x) && pqB f a b mt d (x - fr f a)
theorem cr_more {q : Nat → Bool} {m : Nat} : ∀ d, (∀ t, m ≤ t → t < m + d → ¬ q t = true) → cr q (m + d) = cr q m
  | 0, _ => rfl
  | d + 1, h => by
    have e : cr q (m + (d + 1)) = cr q (m + d) + (if q (m + d) = true then 1 else 0) := rfl
    rw [e, if_neg (h (m + d) (by omega) (by omega)), Nat.add_zero]
    exact cr_more d (fun t h1 h2 => h t h1 (by omega))
theorem cr_shift {q q' : Nat → Bool} {m : Nat} (h0 : ∀ t, t < m → ¬ q' t = true) (hs : ∀ n, q' (m + n) = q n) : ∀ n, cr q' (m + n) = cr q n
  | 0 => by
    have := cr_more (q := q') (m := 0) m (fun t _ h => h0 t (by omega))
    rw [Nat.zero_add] at this
    exact this
  | n + 1 => by
    have e1 : cr q' (m + (n + 1)) = cr q' (m + n) + (if q' (m + n) = true then 1 else 0) := rfl
    have e2 : cr q (n + 1) = cr q n + (if q n = true then 1 else 0) := rfl
    rw [e1, e2, cr_shift h0 hs n, hs n]
theorem pq_cr {f : Nat → Int32} {a b na : Nat} {mt : Nat → Option Nat} {d : Int32} (h : ∀ y q, mt y = some q → y < na) (h10 : fr f a + na ≤ 10) : cr (pqM f a b mt d) 10 = cr (pqB f a b mt d) na := by
  have s := cr_shift (q := pqB f a b mt d) (q' := pqM f a b mt d) (m := fr f a) (fun t ht q => by
    unfold pqM at q
    rw [Bool.and_eq_true, decide_eq_true_eq] at q
    omega) (fun n => by
    unfold pqM
    rw [show fr f a + n - fr f a = n by omega, decide_eq_true (show fr f a ≤ fr f a + n by omega), Bool.true_and]) na
  have m := cr_more (q := pqM f a b mt d) (m := fr f a + na) (10 - (fr f a + na)) (fun t h1 h2 q => by
    unfold pqM at q
    rw [Bool.and_eq_true] at q
    have q2 := q.2
    unfold pqB at q2
    cases e : mt (t - fr f a) with
    | none =>
      rw [e] at q2
      cases q2
    | some j =>
      have := h _ _ e
      omega)
  rw [show fr f a + na + (10 - (fr f a + na)) = 10 by omega] at m
  rw [m, s]
theorem x_hmp {g : tkH} {f : Nat → Int32} (v : Vd f) {a b na nb : Nat} {ta tb : Bool} (ha : a < cN f) (hb : b < cN f) (hna : fr f a + na ≤ cL f a) (hnb : fr f b + nb ≤ cL f b) {mt : Nat → Option Nat} (hm : ∀ y q, mt y = some q → y < na ∧ q < nb) (hg : ∀ x, x < na → g 200 x = eS (mt x)) (A : RW g 194 f a (fr f a) na ta) (B : RW g 196 f b (fr f b) nb tb) {d : Int32} : ∀ (m n i : Nat), m + i = na → m < n → f_X4_howManyPairs_L4 193 d n g (nI (cr (pqB f a b mt d) i)) (nI i) = some (nI (cr (pqB f a b mt d) na), g) := by
  have la := (v.l ha).2
  have lb := (v.l hb).2
  have l200 : ln 200 = 10 := by simp only [LN]
  have l195 : ln 195 = 10 := by simp only [LN]
  have l197 : ln 197 = 10 := by simp only [LN]
  intro m
  induction m with
  | zero =>
    intro n i h1 hn
    obtain ⟨n', rfl⟩ : ∃ n', n = n' + 1 := ⟨n - 1, by omega⟩
    rw [f_X4_howManyPairs_L4_s, show fld 193 0 = 194 by simp only [FL], A.1, if_pos (by rw [nI_leI (by omega) (by omega)]; omega), show i = na by omega]
  | succ m ih =>
    intro n i h1 hn
    obtain ⟨n', rfl⟩ : ∃ n', n = n' + 1 := ⟨n - 1, by omega⟩
    have z := ih n' (i + 1) (by omega) (by omega)
    have e2 : cr (pqB f a b mt d) (i + 1) = cr (pqB f a b mt d) i + (if pqB f a b mt d i = true then 1 else 0) := rfl
    rw [e2] at z
    rw [f_X4_howManyPairs_L4_s, show fld 193 0 = 194 by simp only [FL], show fld 193 1 = 196 by simp only [FL], show fld 193 4 = 200 by simp only [FL], show fld 194 0 = 195 by simp only [FL], show fld 196 0 = 197 by simp only [FL], A.1, if_neg (by rw [nI_leI (by omega) (by omega)]; omega), rdI_n (by omega) (by omega), ob, hg i (by omega), nI_1, nI_1]
    cases em : mt i with
    | none =>
      have q : ¬ pqB f a b mt d i = true := by unfold pqB; rw [em]; exact fun z => by cases z
      rw [if_neg q, Nat.add_zero] at z
      rw [if_pos (show eS none < 0 by decide)]
      exact z
    | some j =>
      have pj := hm _ _ em
      have qe : pqB f a b mt d i = (decide (d = 0) || decide (cS f a (fr f a + i) 0 = cS f b (fr f b + j) 0)) := by unfold pqB; rw [em]
      rw [if_neg (show ¬ eS (some j) < 0 from nI_pos (n := j) (by omega))]
      by_cases c1 : d = 0
      · rw [if_pos c1]
        rw [if_pos (by rw [qe, decide_eq_true c1, Bool.true_or])] at z
        exact z
      · have a0 := (v.s0 ha (show fr f a + i < cL f a by omega)).2
        have b0 := (v.s0 hb (show fr f b + j < cL f b by omega)).2
        rw [if_neg c1, rdI_n (by omega) (by omega), ob, A.2.2 i (by omega), x_motif v ha (by omega), ob]
        simp only []
        rw [show eS (some j) = nI j from rfl, rdI_n (by omega) (by omega), ob, B.2.2 j pj.2, x_motif v hb (by omega), ob]
        simp only []
        rw [nI_inj_if (by omega) (by omega)]
        by_cases c2 : cS f a (fr f a + i) 0 = cS f b (fr f b + j) 0
        · rw [if_pos c2]
          rw [if_pos (by rw [qe, decide_eq_true c2, Bool.or_true])] at z
          exact z
        · rw [if_neg c2]
          rw [if_neg (by rw [qe, decide_eq_false c1, decide_eq_false c2]; decide), Nat.add_zero] at z
          exact z
theorem m_hmp {g : tkH} {f : Nat → Int32} (v : Vd f) (e : g 218 = f) {a b na nb : Nat} (ha : a < cN f) (hb : b < cN f) (hna : fr f a + na ≤ cL f a) (hnb : fr f b + nb ≤ cL f b) {mt : Nat → Option Nat} (hm : ∀ y q, mt y = some q → y < na ∧ q < nb) (hg : ∀ x, x < 10 → g 225 x = eM (fr f a) (fr f b) mt x) {d : Int32} : ∀ (m n x : Nat), m + x = 10 → m < n → f_X9_pairs_L35 217 d (nI a) (nI b) n g (nI (cr (pqM f a b mt d) x)) (nI x) = some (nI (cr (pqM f a b mt d) 10), g) := by
  have n2 := v.n.2
  have la := (v.l ha).2
  have lb := (v.l hb).2
  have l225 : ln 225 = 10 := by simp only [LN]
  intro m
  induction m with
  | zero =>
    intro n x h1 hn
    obtain ⟨n', rfl⟩ : ∃ n', n = n' + 1 := ⟨n - 1, by omega⟩
    rw [f_X9_pairs_L35_s, if_pos (by rw [nl10, nI_leI (by omega) (by omega)]; omega), show x = 10 by omega]
  | succ m ih =>
    intro n x h1 hn
    obtain ⟨n', rfl⟩ : ∃ n', n = n' + 1 := ⟨n - 1, by omega⟩
    have z := ih n' (x + 1) (by omega) (by omega)
    have e2 : cr (pqM f a b mt d) (x + 1) = cr (pqM f a b mt d) x + (if pqM f a b mt d x = true then 1 else 0) := rfl
    rw [e2] at z
    have p0 : ∀ k : Nat, nI k + 0 = nI k := fun k => nI_add k 0
    rw [f_X9_pairs_L35_s, if_neg (by rw [nl10, nI_leI (by omega) (by omega)]; omega), show fld 217 18 = 225 by simp only [FL], rdI_n (by omega) (by omega), ob, hg x (by omega)]
    unfold f_X9_pairs_J82
    rw [p0, nI_1, nI_1]
    by_cases c0 : x < fr f a
    · have q1 : eM (fr f a) (fr f b) mt x = -1 := by unfold eM; rw [if_pos c0]
      have q2 : ¬ pqM f a b mt d x = true := fun q => by
        unfold pqM at q
        rw [Bool.and_eq_true, decide_eq_true_eq] at q
        omega
      rw [if_neg q2, Nat.add_zero] at z
      rw [q1, if_pos (show (-1 : Int32) < 0 by decide)]
      exact z
    · cases em : mt (x - fr f a) with
      | none =>
        have q1 : eM (fr f a) (fr f b) mt x = -1 := by unfold eM; rw [if_neg c0, em]
        have q2 : ¬ pqM f a b mt d x = true := fun q => by
          unfold pqM pqB at q
          rw [em, Bool.and_eq_true] at q
          exact Bool.false_ne_true q.2
        rw [if_neg q2, Nat.add_zero] at z
        rw [q1, if_pos (show (-1 : Int32) < 0 by decide)]
        exact z
      | some j =>
        have pj := hm _ _ em
        have qe : pqM f a b mt d x = (decide (d = 0) || decide (cS f a x 0 = cS f b (fr f b + j) 0)) := by
          unfold pqM pqB
          rw [em, decide_eq_true (show fr f a ≤ x by omega), Bool.true_and]
          simp only [show fr f a + (x - fr f a) = x by omega]
        have ee : eM (fr f a) (fr f b) mt x = nI (fr f b + j) := by unfold eM; rw [if_neg c0, em]
        rw [ee, if_neg (nI_pos (n := fr f b + j) (by omega))]
        by_cases c1 : d = 0
        · rw [if_pos c1]
          rw [if_pos (by rw [qe, decide_eq_true c1, Bool.true_or])] at z
          exact z
        · have a0 := v.s0 ha (show x < cL f a by omega)
          have b0 := v.s0 hb (show fr f b + j < cL f b by omega)
          have A0 : f_X9_stepOf g 217 (nI a) (nI x) 0 = some (nI (cS f a x 0), g) := (m_stepOf (w := 0) (by omega) (by omega) (by decide)).trans (by rw [e, Nat.add_zero, a0.1])
          have B0 : f_X9_stepOf g 217 (nI b) (nI (fr f b + j)) 0 = some (nI (cS f b (fr f b + j) 0), g) := (m_stepOf (w := 0) (by omega) (by omega) (by decide)).trans (by rw [e, Nat.add_zero, b0.1])
          rw [if_neg c1, A0, ob]
          simp only []
          rw [rdI_n (by omega) (by omega), ob, hg x (by omega), ee, B0, ob]
          simp only []
          rw [nI_inj_if (by omega) (by omega)]
          by_cases c2 : cS f a x 0 = cS f b (fr f b + j) 0
          · rw [if_pos c2]
            rw [if_pos (by rw [qe, decide_eq_true c2, Bool.or_true])] at z
            exact z
          · rw [if_neg c2]
            rw [if_neg (by rw [qe, decide_eq_false c1, decide_eq_false c2]; decide), Nat.add_zero] at z
            exact z
theorem op_pairs {h : tkH} (I : Inv h) (a b c : Int32) : OP (f_X8_pairs h 0 a b c) (fun g => f_X9_pairs g 217 a b c) := by
  have v := I.1
  have n2 := v.n.2
  by_cases ha : ∃ t, t < cN (h 218) ∧ a = nI t
  · obtain ⟨t, ht, rfl⟩ := ha
    by_cases hb : ∃ u, u < cN (h 218) ∧ b = nI u
    · obtain ⟨u, hu, rfl⟩ := hb
      have l := (v.l ht).2
      have ra := fr_le (f := h 218) (t := t)
      have rb := fr_le (f := h 218) (t := u)
      obtain ⟨mt, hx, p1, p2, p3, p4, p5, p6, p7⟩ := pairs_both I.2.1 v ht hu
      have e218 : hx 218 = h 218 := p2 218 (by omega)
      obtain ⟨hf, q1, q2, q3⟩ := p7 hx e218
      have X := x_hmp v ht hu (by omega) (by omega) p1 p4 p5 p6 (d := c) (to_ (h 218) t - fr (h 218) t) FU 0 (by omega) (FU_gt (by omega))
      have M := m_hmp v (q1.f.trans e218) ht hu (show fr (h 218) t + (to_ (h 218) t - fr (h 218) t) ≤ _ by omega) (show fr (h 218) u + (to_ (h 218) u - fr (h 218) u) ≤ _ by omega) p1 q2 (d := c) 10 FU 0 (by omega) (FU_gt (by omega))
      rw [pq_cr (fun y q z => (p1 y q z).1) (by omega)] at M
      have X' : f_X4_howManyPairs hx 193 c = some (nI (cr (pqB (h 218) t u mt c) (to_ (h 218) t - fr (h 218) t)), hx) := X
      have M' : f_X9_pairs_L35 217 c (nI t) (nI u) FU hf 0 0 = some (nI (cr (pqB (h 218) t u mt c) (to_ (h 218) t - fr (h 218) t)), hf) := M
      refine OP.q (h1 := hx) (h2 := hf) (r := nI (cr (pqB (h 218) t u mt c) (to_ (h 218) t - fr (h 218) t))) I ?_ ?_ p2.p (I.2.2.2.2.1.keep p2.c) q1
      · unfold f_X8_pairs
        rw [f00.1, x_hasTale_t I.x0 n2 ht]
        simp only [ob, i1f, eq_self, if_true, if_false]
        rw [x_hasTale_t I.x0 n2 hu]
        simp only [ob, i1f, eq_self, if_true, if_false]
        rw [f00.2.2.1, p3, ob, show gk (193, hx).1 7 = some () from by unfold gk; rw [if_pos KD.2], ob]
        simp only []
        rw [X', ob]
      · show f_X9_pairs hx 217 (nI t) (nI u) c = _
        unfold f_X9_pairs
        rw [m_isTale_t (n := cN (h 218)) (by rw [e218]; exact v.n.1) n2 ht]
        simp only [ob, i1f, eq_self, if_true, if_false]
        rw [m_isTale_t (n := cN (h 218)) (by rw [e218]; exact v.n.1) n2 hu]
        simp only [ob, i1f, eq_self, if_true, if_false]
        rw [q3, ob]
        exact M'
    · refine OP.f0 (c := -100001) I ?_ (fun g e => ?_)
      · unfold f_X8_pairs
        rw [f00.1, x_hasTale_t I.x0 n2 ht]
        simp only [ob, i1f, eq_self, if_true, if_false]
        rw [x_hasTale_f I.x0 n2 hb]
        simp only [ob, i1f, eq_self, if_true, if_false]
        rfl
      · show f_X9_pairs g 217 (nI t) b c = _
        unfold f_X9_pairs
        rw [m_isTale_t (n := cN (h 218)) (by rw [e 218 (by decide)]; exact v.n.1) n2 ht]
        simp only [ob, i1f, eq_self, if_true, if_false]
        rw [m_isTale_f (n := cN (h 218)) (by rw [e 218 (by decide)]; exact v.n.1) n2 hb]
        simp only [ob, i1f, eq_self, if_true, if_false]
        rfl
  · refine OP.f0 (c := -100001) I ?_ (fun g e => ?_)
    · unfold f_X8_pairs
      rw [f00.1, x_hasTale_f I.x0 n2 ha]
      simp only [ob, i1f, eq_self, if_true, if_false]
      rfl
    · show f_X9_pairs g 217 a b c = _
      unfold f_X9_pairs
      rw [m_isTale_f (n := cN (h 218)) (by rw [e 218 (by decide)]; exact v.n.1) n2 ha]
      simp only [ob, i1f, eq_self, if_true, if_false]
      rfl
