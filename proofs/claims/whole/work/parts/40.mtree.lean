/-! tree, branch: the reference -/
def trV (a : Int32) (f : Nat → Int32) (x y : Nat) : Int32 := if hb a x = true ∧ hb a y = true then nI (trW f (10 * x + y)) else -1
theorem an2 (u w : Int32) : (u &&& w) &&& 1 = (u &&& 1) &&& (w &&& 1) := by
  apply Int32.toBitVec_inj.mp
  show u.toBitVec &&& w.toBitVec &&& 1#32 = (u.toBitVec &&& 1#32) &&& (w.toBitVec &&& 1#32)
  apply BitVec.eq_of_getLsbD_eq
  intro i hi
  rw [BitVec.getLsbD_and, BitVec.getLsbD_and, BitVec.getLsbD_and, BitVec.getLsbD_and, BitVec.getLsbD_and]
  cases u.toBitVec.getLsbD i <;> cases w.toBitVec.getLsbD i <;> cases (1#32).getLsbD i <;> rfl
theorem an_both {a : Int32} {x y : Nat} : (((a >>> (nI x &&& 31)) &&& (a >>> (nI y &&& 31))) &&& 1 = 1) ↔ hb a x = true ∧ hb a y = true := by
  rw [an2]
  by_cases b1 : hb a x = true
  · rw [hb_t b1]
    by_cases b2 : hb a y = true
    · rw [hb_t b2]
      exact ⟨fun _ => ⟨b1, b2⟩, fun _ => by decide⟩
    · rw [hb_f0 b2]
      exact ⟨fun q => absurd q (by decide), fun q => absurd q.2 b2⟩
  · rw [hb_f0 b1]
    refine ⟨fun q => ?_, fun q => absurd q.1 b1⟩
    rcases an1 (a >>> (nI y &&& 31)) with z | z <;> rw [z] at q <;> exact absurd q (by decide)
def T4 (h hf : tkH) : Prop := (∀ q, q < 217 ∨ (218 ≤ q ∧ q ≤ 222) ∨ 227 ≤ q → hf q = h q) ∧ ∀ j, j < 8 ∨ 18 ≤ j → hf 217 j = h 217 j
theorem r226 {h : tkH} {k : Nat} (hk : k < 100) : rdI h 226 (nI k) = some (h 226 k) := rdI_n (by simp only [LN]; exact hk) (by simp only [LN]; decide)
theorem w226 {h : tkH} {k : Nat} {x : Int32} (hk : k < 100) : wrI h 226 (nI k) x = some (tkup h 226 k x) := wrI_n (by simp only [LN]; exact hk) (by simp only [LN]; decide)
theorem r227 {h : tkH} {k : Nat} (hk : k < 10) : rdI h 227 (nI k) = some (h 227 k) := rdI_n (by simp only [LN]; exact hk) (by simp only [LN]; decide)
theorem w227 {h : tkH} {k : Nat} {x : Int32} (hk : k < 10) : wrI h 227 (nI k) x = some (tkup h 227 k x) := wrI_n (by simp only [LN]; exact hk) (by simp only [LN]; decide)
theorem f217 : fld 217 0 = 218 ∧ fld 217 20 = 226 ∧ fld 217 21 = 227 ∧ fld 217 22 = 228 := by simp only [FL]; decide
theorem rz218 (g : tkH) : rdI g 218 0 = some (g 218 0) := r218 (k := 0) (by decide)
theorem m_lk23 {f : Nat → Int32} {a : Int32} (v : Vd f) {x : Nat} (hx : x < cN f) {kx : tkH → Option tkH} : ∀ (m n y : Nat) (g : tkH), m + y = cN f → x < y → m < n → g 218 = f → ∃ hf, T4 g hf ∧ (∀ z, y ≤ z → z < cN f → hf 226 (10 * x + z) = trV a f x z) ∧ (∀ k, k < 10 * x + y ∨ 10 * x + cN f ≤ k → hf 226 k = g 226 k) ∧ f_X9_findTree_L23 217 a (nI x) kx n g (nI y) = kx hf := by
  have n2 := v.n.2
  intro m
  induction m with
  | zero =>
    intro n y g h1 h2 hn e
    obtain ⟨n', rfl⟩ : ∃ n', n = n' + 1 := ⟨n - 1, by omega⟩
    refine ⟨g, ⟨fun _ _ => rfl, fun _ _ => rfl⟩, fun z h3 h4 => by omega, fun _ _ => rfl, ?_⟩
    rw [f_X9_findTree_L23_s, f217.1, rz218, ob, e, v.n.1, if_pos (by rw [nI_leI (by omega) (by omega)]; omega)]
  | succ m ih =>
    intro n y g h1 h2 hn e
    obtain ⟨n', rfl⟩ : ∃ n', n = n' + 1 := ⟨n - 1, by omega⟩
    have st : ∃ g1, MG g g1 ∧ f_X9_findTree_L23 217 a (nI x) kx (n' + 1) g (nI y) = f_X9_findTree_L23 217 a (nI x) kx n' (tkup g1 226 (10 * x + y) (trV a f x y)) (nI (y + 1)) := by
      rw [f_X9_findTree_L23_s, f217.1, rz218, ob, e, v.n.1, if_neg (by rw [nI_leI (by omega) (by omega)]; omega)]
      unfold f_X9_findTree_J75
      rw [f217.2.1, nl10, pk_mul, nI_add, nI_1]
      by_cases c : hb a x = true ∧ hb a y = true
      · rw [if_pos (an_both.mpr c)]
        obtain ⟨g1, b1, b2, b3, b4⟩ := m_costOfG (h := g) (a := x) (b := y) (by rw [e]; exact v) (by rw [e]; exact hx) (by rw [e]; omega)
        have e1 : g1 218 = f := b1.f.trans e
        obtain ⟨g2, c1, c2, c3, c4⟩ := m_costOfG (h := g1) (a := y) (b := x) (by rw [e1]; exact v) (by rw [e1]; omega) (by rw [e1]; exact hx)
        rw [e] at b4
        rw [e1] at c4
        have l1 := (cst_le v hx (show y < cN f by omega)).1
        have l2 := (cst_le v (show y < cN f by omega) hx).1
        have sy := cst_sym v hx (show y < cN f by omega)
        have ev : trV a f x y = nI (min (cst f x y).1 (cst f y x).1) := by
          unfold trV trW
          rw [if_pos c, show (10 * x + y) / 10 = x by omega, show (10 * x + y) % 10 = y by omega, if_pos ⟨hx, by omega⟩, ← sy, Nat.min_self]
        refine ⟨g2, b1.tr c1, ?_⟩
        rw [b4, ob]
        simp only []
        rw [c4, ob]
        simp only []
        rw [mnI_n (by omega) (by omega), w226 (by omega), ob, ev]
      · rw [if_neg (fun q => c (an_both.mp q))]
        refine ⟨g, MG.rf, ?_⟩
        rw [w226 (by omega), ob]
        unfold trV
        rw [if_neg c]
    obtain ⟨g1, d1, d2⟩ := st
    obtain ⟨hf, b1, b2, b3, b4⟩ := ih n' (y + 1) (tkup g1 226 (10 * x + y) (trV a f x y)) (by omega) (by omega) (by omega) (by rw [up_a (by decide)]; exact d1.f.trans e)
    refine ⟨hf, ⟨fun q hq => by rw [b1.1 q hq, up_a (by omega), d1.1 q (by omega)], fun j hj => by rw [b1.2 j hj, up_a (by decide), d1.2 j hj]⟩, fun z h3 h4 => ?_, fun k hk => ?_, d2.trans b4⟩
    · by_cases ez : z = y
      · rw [b3 _ (by omega), ez, up_s]
      · exact b2 z (by omega) h4
    · rw [b3 k (by omega), up_i (by omega), d1.1 226 (by omega)]
theorem m_lk2 {f : Nat → Int32} {a : Int32} (v : Vd f) {kx : tkH → Option tkH} : ∀ (m n x : Nat) (g : tkH), m + x = cN f → m < n → g 218 = f → (∀ t, t < x → g 227 t = nI t) → (∀ u w, u < x → u < w → w < cN f → g 226 (10 * u + w) = trV a f u w) → ∃ hf, (∀ q, q < 217 ∨ (218 ≤ q ∧ q ≤ 222) → hf q = g q) ∧ (∀ j, j < 8 → hf 217 j = g 217 j) ∧ (∀ t, t < cN f → hf 227 t = nI t) ∧ (∀ u w, u < w → w < cN f → hf 226 (10 * u + w) = trV a f u w) ∧ f_X9_findTree_L2 217 a kx n g (nI x) = kx hf := by
  have n2 := v.n.2
  intro m
  induction m with
  | zero =>
    intro n x g h1 hn e i1 i2
    obtain ⟨n', rfl⟩ : ∃ n', n = n' + 1 := ⟨n - 1, by omega⟩
    refine ⟨g, fun _ _ => rfl, fun _ _ => rfl, fun t ht => i1 t (by omega), fun u w h3 h4 => i2 u w (by omega) h3 h4, ?_⟩
    rw [f_X9_findTree_L2_s, f217.1, rz218, ob, e, v.n.1, if_pos (by rw [nI_leI (by omega) (by omega)]; omega)]
  | succ m ih =>
    intro n x g h1 hn e i1 i2
    obtain ⟨n', rfl⟩ : ∃ n', n = n' + 1 := ⟨n - 1, by omega⟩
    rw [f_X9_findTree_L2_s, f217.1, rz218, ob, e, v.n.1, if_neg (by rw [nI_leI (by omega) (by omega)]; omega), f217.2.2.1, w227 (by omega), ob, nI_1]
    obtain ⟨g1, b1, b2, b3, b4⟩ := m_lk23 (a := a) v (x := x) (by omega) (kx := fun gz82 => (f_X9_findTree_L2 217 a kx n') gz82 (nI (x + 1))) (cN f - (x + 1)) FU (x + 1) (tkup g 227 x (nI x)) (by omega) (by omega) (FU_gt (by omega)) (by rw [up_a (by decide)]; exact e)
    obtain ⟨hf, c1, c2, c3, c4, c5⟩ := ih n' (x + 1) g1 (by omega) (by omega) (by rw [b1.1 218 (by omega), up_a (by decide)]; exact e) (fun t ht => by
      rw [b1.1 227 (by omega)]
      by_cases et : t = x
      · rw [et, up_s]
      · rw [up_i et, i1 t (by omega)]) (fun u w h3 h4 h5 => by
      by_cases eu : u = x
      · rw [eu]
        exact b2 w (by omega) h5
      · rw [b3 _ (by omega), up_a (by decide)]
        exact i2 u w (by omega) h4 h5)
    exact ⟨hf, fun q hq => by rw [c1 q hq, b1.1 q (by omega), up_a (by omega)], fun j hj => by rw [c2 j hj, b1.2 j (by omega), up_a (by decide)], c3, c4, b4.trans c5⟩
/-- the reference's search -/
theorem m_sc18 {g : tkH} {f : Nat → Int32} {a : Int32} {p : Nat → Nat} (v : Vd f) (e : g 218 = f) (hp : ∀ t, t < cN f → g 227 t = nI (p t)) (hp1 : ∀ t, t < 10 → p t < 10) (hL : ∀ u w, u < w → w < cN f → g 226 (10 * u + w) = trV a f u w) (hH : ∀ t, t < 10 → cN f ≤ t → ¬ hb a t = true) {kx : tkH → Int32 → Option (Int32 × tkH)} {lo : Nat} (hlo : lo < cN f) : ∀ (m n hi : Nat), m + hi = cN f → lo < hi → m < n → f_X9_nextBranch_L18 217 (nI lo) kx n g (eB (chb (trC a p) (trW f) (10 * lo + hi))) (nI hi) = kx g (eB (chb (trC a p) (trW f) (10 * lo + 10))) := by
  have n2 := v.n.2
  have hW : ∀ x, x < 100 → trC a p x = true → g 226 x = nI (trW f x) := by
    intro x h1 h2
    obtain ⟨c1, c2, c3, c4⟩ := trC_d h2
    have l2 : x % 10 < cN f := Nat.lt_of_not_le (fun q => hH _ (by omega) q c3)
    have k := hL (x / 10) (x % 10) c1 l2
    rw [show 10 * (x / 10) + x % 10 = x by omega] at k
    rw [k]
    unfold trV
    rw [if_pos ⟨c2, c3⟩, show 10 * (x / 10) + x % 10 = x by omega]
  intro m
  induction m with
  | zero =>
    intro n hi h1 h2 hn
    obtain ⟨n', rfl⟩ : ∃ n', n = n' + 1 := ⟨n - 1, by omega⟩
    have sk : chb (trC a p) (trW f) (10 * lo + hi + (10 - hi)) = chb (trC a p) (trW f) (10 * lo + hi) := chb_skip (10 - hi) (fun t q1 q2 q3 => hH (t % 10) (by omega) (by omega) (trC_d q3).2.2.1)
    rw [f_X9_nextBranch_L18_s, f217.1, rz218, ob, e, v.n.1, if_pos (by rw [nI_leI (by omega) (by omega)]; omega), ← sk, show 10 * lo + hi + (10 - hi) = 10 * lo + 10 by omega]
  | succ m ih =>
    intro n hi h1 h2 hn
    obtain ⟨n', rfl⟩ : ∃ n', n = n' + 1 := ⟨n - 1, by omega⟩
    have z := ih n' (hi + 1) (by omega) (by omega) (by omega)
    rw [show 10 * lo + (hi + 1) = 10 * lo + hi + 1 by omega] at z
    rw [f_X9_nextBranch_L18_s, f217.1, rz218, ob, e, v.n.1, if_neg (by rw [nI_leI (by omega) (by omega)]; omega), f217.2.1, f217.2.2.1, nl10, pk_mul, nI_add, nI_1, r226 (by omega), ob, hL lo hi h2 (by omega)]
    by_cases b1 : hb a lo = true ∧ hb a hi = true
    · have w2 := trW_le v (10 * lo + hi)
      have ev : trV a f lo hi = nI (trW f (10 * lo + hi)) := by unfold trV; rw [if_pos b1]
      rw [ev, if_neg (nI_pos (by omega)), r227 (by omega), ob, r227 (by omega), ob, hp lo hlo, hp hi (by omega)]
      have q1 := hp1 lo (by omega)
      have q2 := hp1 hi (by omega)
      by_cases b3 : p lo = p hi
      · have hc : ¬ trC a p (10 * lo + hi) = true := by rw [trC_at (by omega)]; simp [b3]
        rw [if_pos (by rw [b3])]
        rw [chb_f hc] at z
        exact z
      · have hc : trC a p (10 * lo + hi) = true := by rw [trC_at (by omega)]; simp [b1.1, b1.2, b3, h2]
        rw [if_neg (nIne (by omega) (by omega) b3)]
        cases ec : chb (trC a p) (trW f) (10 * lo + hi) with
        | none =>
          rw [if_pos (show eB none < 0 by decide)]
          rw [chb_n hc ec] at z
          exact z
        | some b =>
          have ok := chb_ok _ _ ec
          have cb := chb_c _ _ ec
          have w1 := trW_le v b.1
          rw [if_neg (show ¬ eB (some b) < 0 from nI_pos (n := b.1) (by omega)), ob]
          have eb : eB (some b) = nI b.1 := rfl
          rw [eb, r226 (by omega), ob, hW _ (by omega) cb]
          rw [chb_s hc ec, ok.2] at z
          by_cases hl : trW f (10 * lo + hi) < trW f b.1
          · rw [if_pos hl] at z
            rw [if_neg (by rw [nI_leI (by omega) (by omega)]; omega)]
            exact z
          · rw [if_neg hl] at z
            rw [if_pos (by rw [nI_leI (by omega) (by omega)]; omega)]
            exact z
    · have hc : ¬ trC a p (10 * lo + hi) = true := fun q => b1 (by
        rw [trC_at (by omega)] at q
        simp only [Bool.and_eq_true, decide_eq_true_eq] at q
        exact ⟨q.1.1.2, q.1.2⟩)
      have ev : trV a f lo hi = -1 := by unfold trV; rw [if_neg b1]
      rw [ev, if_pos (by decide)]
      rw [chb_f hc] at z
      exact z
theorem m_sc4 {g : tkH} {f : Nat → Int32} {a : Int32} {p : Nat → Nat} (v : Vd f) (e : g 218 = f) (hp : ∀ t, t < cN f → g 227 t = nI (p t)) (hp1 : ∀ t, t < 10 → p t < 10) (hL : ∀ u w, u < w → w < cN f → g 226 (10 * u + w) = trV a f u w) (hH : ∀ t, t < 10 → cN f ≤ t → ¬ hb a t = true) : ∀ (m n lo : Nat), m + lo = cN f → m < n → f_X9_nextBranch_L4 217 n g (eB (chb (trC a p) (trW f) (10 * lo))) (nI lo) = some (eB (chb (trC a p) (trW f) 100), g) := by
  have n2 := v.n.2
  intro m
  induction m with
  | zero =>
    intro n lo h1 hn
    obtain ⟨n', rfl⟩ : ∃ n', n = n' + 1 := ⟨n - 1, by omega⟩
    have sk : chb (trC a p) (trW f) (10 * lo + (100 - 10 * lo)) = chb (trC a p) (trW f) (10 * lo) := chb_skip (100 - 10 * lo) (fun t q1 q2 q3 => hH (t / 10) (by omega) (by omega) (trC_d q3).2.1)
    rw [f_X9_nextBranch_L4_s, f217.1, rz218, ob, e, v.n.1, if_pos (by rw [nI_leI (by omega) (by omega)]; omega), ← sk, show 10 * lo + (100 - 10 * lo) = 100 by omega]
  | succ m ih =>
    intro n lo h1 hn
    obtain ⟨n', rfl⟩ : ∃ n', n = n' + 1 := ⟨n - 1, by omega⟩
    rw [f_X9_nextBranch_L4_s, f217.1, rz218, ob, e, v.n.1, if_neg (by rw [nI_leI (by omega) (by omega)]; omega), nI_1, ← trC_row (by omega)]
    refine (m_sc18 v e hp hp1 hL hH (lo := lo) (by omega) (cN f - (lo + 1)) FU (lo + 1) (by omega) (by omega) (FU_gt (by omega))).trans ?_
    show f_X9_nextBranch_L4 217 n' g _ (nI (lo + 1)) = _
    exact ih n' (lo + 1) (by omega) (by omega)
def trM (g : tkH) (f : Nat → Int32) (a : Int32) (s : trS) : Prop := g 218 = f ∧ (∀ t, t < cN f → g 227 t = nI (s.1 t)) ∧ (∀ u w, u < w → w < cN f → g 226 (10 * u + w) = trV a f u w) ∧ (∀ i, i < s.2.2.1 → g 228 i = nI (s.2.1 i)) ∧ g 217 23 = nI s.2.2.1 ∧ g 217 24 = nI s.2.2.2
theorem m_nextB {g : tkH} {f : Nat → Int32} {a : Int32} {s : trS} (v : Vd f) (hI : trI a s) (hM : trM g f a s) (hH : ∀ t, t < 10 → cN f ≤ t → ¬ hb a t = true) : f_X9_nextBranch g 217 = some (eB (chb (trC a s.1) (trW f) 100), g) :=
  m_sc4 v hM.1 hM.2.1 hI.1 hM.2.2.1 hH (cN f) FU 0 (by omega) (FU_gt (by have := v.n.2; omega))
theorem m_joinP {f : Nat → Int32} (v : Vd f) {A B : Int32} {kx : tkH → Option tkH} : ∀ (m n t : Nat) (g : tkH), m + t = cN f → m < n → g 218 = f → ∃ hf, BC 227 g hf ∧ (∀ x, x < cN f → t ≤ x → hf 227 x = if g 227 x = B then A else g 227 x) ∧ (∀ x, x < t → hf 227 x = g 227 x) ∧ f_X9_findTree_L131 217 B A kx n g (nI t) = kx hf := by
  have n2 := v.n.2
  intro m
  induction m with
  | zero =>
    intro n t g h1 hn e
    obtain ⟨n', rfl⟩ : ∃ n', n = n' + 1 := ⟨n - 1, by omega⟩
    refine ⟨g, BC.rf, fun x h2 h3 => by omega, fun _ _ => rfl, ?_⟩
    rw [f_X9_findTree_L131_s, f217.1, rz218, ob, e, v.n.1, if_pos (by rw [nI_leI (by omega) (by omega)]; omega)]
  | succ m ih =>
    intro n t g h1 hn e
    obtain ⟨n', rfl⟩ : ∃ n', n = n' + 1 := ⟨n - 1, by omega⟩
    have st : f_X9_findTree_L131 217 B A kx (n' + 1) g (nI t) = f_X9_findTree_L131 217 B A kx n' (tkup g 227 t (if g 227 t = B then A else g 227 t)) (nI (t + 1)) := by
      rw [f_X9_findTree_L131_s, f217.1, rz218, ob, e, v.n.1, if_neg (by rw [nI_leI (by omega) (by omega)]; omega)]
      unfold f_X9_findTree_J171
      rw [f217.2.2.1, r227 (by omega), ob, ob, nI_1]
      by_cases c : g 227 t = B
      · rw [if_pos c, if_pos c, w227 (by omega), ob]
      · rw [if_neg c, if_neg c, w227 (by omega), ob]
    obtain ⟨hf, b1, b2, b3, b4⟩ := ih n' (t + 1) (tkup g 227 t (if g 227 t = B then A else g 227 t)) (by omega) (by omega) (by rw [up_a (by decide)]; exact e)
    refine ⟨hf, fun q e => by rw [b1 q e, up_a e], fun x h2 h3 => ?_, fun x hx => by rw [b3 x (by omega), up_i (by omega)], st.trans b4⟩
    by_cases ex : x = t
    · rw [b3 x (by omega), ex, up_s]
    · rw [b2 x h2 (by omega), up_i ex]
theorem m_treeL {f : Nat → Int32} {a : Int32} (v : Vd f) (hH : ∀ t, t < 10 → cN f ≤ t → ¬ hb a t = true) : ∀ (m n : Nat) (g : tkH) (s : trS), m < n → trI a s → trM g f a s → cr (hb a) 10 ≤ s.2.2.1 + m + 1 → ∃ hf, (∀ q, q < 217 ∨ (218 ≤ q ∧ q ≤ 222) → hf q = g q) ∧ (∀ j, j < 8 → hf 217 j = g 217 j) ∧ trM hf f a (trR a f m s) ∧ f_X9_findTree_L103 217 n g (eB (chb (trC a s.1) (trW f) 100)) = some hf := by
  have n2 := v.n.2
  have l228 : ln 228 = 10 := by simp only [LN]
  intro m
  induction m with
  | zero =>
    intro n g s hn hI hM hc
    obtain ⟨n', rfl⟩ : ∃ n', n = n' + 1 := ⟨n - 1, by omega⟩
    refine ⟨g, fun _ _ => rfl, fun _ _ => rfl, hM, ?_⟩
    rw [trI_none hI (by have := hI.2.2.2.1; omega), f_X9_findTree_L103_s, if_pos (show eB none < 0 by decide)]
  | succ m ih =>
    intro n g s hn hI hM hc
    obtain ⟨n', rfl⟩ : ∃ n', n = n' + 1 := ⟨n - 1, by omega⟩
    cases e : chb (trC a s.1) (trW f) 100 with
    | none =>
      refine ⟨g, fun _ _ => rfl, fun _ _ => rfl, by rw [trR_n (trT_n e)]; exact hM, ?_⟩
      rw [f_X9_findTree_L103_s, if_pos (show eB none < 0 by decide)]
    | some b =>
      have ok := chb_ok _ _ e
      have cb := chb_c _ _ e
      have w := trW_le v b.1
      obtain ⟨c1, c2, c3, c4⟩ := trC_d cb
      obtain ⟨hI', s8⟩ := trI_some v hI ok.1 cb
      obtain ⟨m0, m1, m2, m3, m4, m5⟩ := id hM
      have i5 := hI.2.2.2.2
      have p1 := hI.1 (b.1 / 10) (by omega)
      have p2 := hI.1 (b.1 % 10) (by omega)
      have l1 : b.1 / 10 < cN f := Nat.lt_of_not_le (fun q => hH _ (by omega) q c2)
      have l2 : b.1 % 10 < cN f := Nat.lt_of_not_le (fun q => hH _ (by omega) q c3)
      have eW : g 226 b.1 = nI (trW f b.1) := by
        have k := m2 (b.1 / 10) (b.1 % 10) c1 l2
        rw [show 10 * (b.1 / 10) + b.1 % 10 = b.1 by omega] at k
        rw [k]
        unfold trV
        rw [if_pos ⟨c2, c3⟩, show 10 * (b.1 / 10) + b.1 % 10 = b.1 by omega]
      obtain ⟨g1, d1, d2, d3, d4⟩ := m_joinP v (A := nI (s.1 (b.1 / 10))) (B := nI (s.1 (b.1 % 10))) (kx := fun gz178 => (wrI gz178 228 (gz178 217 23) ((16 * (nI b.1 / 10)) + (nI b.1 - nI b.1 / 10 * 10))).bind fun h198 => (rdI (tkup h198 217 23 ((h198 217 23) + 1)) 226 (nI b.1)).bind fun v219 => (f_X9_nextBranch (tkup (tkup h198 217 23 ((h198 217 23) + 1)) 217 24 (((tkup h198 217 23 ((h198 217 23) + 1)) 217 24) + v219)) 217).bind fun x225 => (f_X9_findTree_L103 217 n') x225.2 x225.1) (cN f) FU 0 g (by omega) (FU_gt (by omega)) m0
      obtain ⟨g2, hg2⟩ : ∃ g2, g2 = tkup g1 228 s.2.2.1 (nI (16 * (b.1 / 10) + b.1 % 10)) := ⟨_, rfl⟩
      obtain ⟨g3, hg3⟩ : ∃ g3, g3 = tkup g2 217 23 (nI (s.2.2.1 + 1)) := ⟨_, rfl⟩
      obtain ⟨g4, hg4⟩ : ∃ g4, g4 = tkup g3 217 24 (nI (s.2.2.2 + trW f b.1)) := ⟨_, rfl⟩
      have E : ∀ q, q ≠ 217 → q ≠ 227 → q ≠ 228 → g4 q = g q := fun q h1 h2 h3 => by rw [hg4, up_a h1, hg3, up_a h1, hg2, up_a h3, d1 q h2]
      have hM4 : trM g4 f a (trK f s b.1) := by
        refine ⟨by rw [E 218 (by decide) (by decide) (by decide)]; exact m0, fun t ht => ?_, fun u w h1 h2 => by rw [E 226 (by decide) (by decide) (by decide)]; exact m2 u w h1 h2, fun i hi => ?_, ?_, ?_⟩
        · rw [hg4, up_a (by decide), hg3, up_a (by decide), hg2, up_a (by decide), d2 t ht (Nat.zero_le _), m1 t ht]
          show _ = nI (trJ s.1 b.1 t)
          unfold trJ
          have p3 := hI.1 t (by omega)
          rw [nI_inj_if (by omega) (by omega)]
          by_cases c : s.1 t = s.1 (b.1 % 10)
          · rw [if_pos c, if_pos c]
          · rw [if_neg c, if_neg c]
        · have hi' : i < s.2.2.1 + 1 := hi
          show g4 228 i = nI (if i = s.2.2.1 then 16 * (b.1 / 10) + b.1 % 10 else s.2.1 i)
          rw [hg4, up_a (by decide), hg3, up_a (by decide), hg2]
          by_cases c : i = s.2.2.1
          · rw [if_pos c, c, up_s]
          · rw [if_neg c, up_i c, d1 228 (by decide), m3 i (by omega)]
        · rw [hg4, up_i (by decide), hg3, up_s]
          rfl
        · rw [hg4, up_s]
          rfl
      obtain ⟨hf, k1, k2, k3, k4⟩ := ih n' g4 (trK f s b.1) (by omega) hI' hM4 (by show cr (hb a) 10 ≤ s.2.2.1 + 1 + m + 1; omega)
      refine ⟨hf, fun q hq => by rw [k1 q hq, E q (by omega) (by omega) (by omega)], fun j hj => by rw [k2 j hj, hg4, up_i (by omega), hg3, up_i (by omega), hg2, up_a (by decide), d1 217 (by decide)], by rw [trR_s (trT_s e)]; exact k3, ?_⟩
      rw [f_X9_findTree_L103_s, show eB (some b) = nI b.1 from rfl, if_neg (nI_pos (n := b.1) (by omega)), f217.2.1, f217.2.2.1, f217.2.2.2]
      have q10 : nI b.1 / 10 = nI (b.1 / 10) := pk_div (d := 10) (by omega) (by omega) (by omega)
      have q11 : nI b.1 - nI b.1 / 10 * 10 = nI (b.1 % 10) := pk_rem (d := 10) (by omega) (by omega) (by omega)
      rw [q11, q10] at d4
      rw [q11, q10, r227 (by omega), ob, r227 (by omega), ob, m1 _ l1, m1 _ l2]
      refine d4.trans ?_
      show (wrI g1 228 (g1 217 23) (16 * nI (b.1 / 10) + nI (b.1 % 10))).bind _ = _
      rw [show g1 217 23 = nI s.2.2.1 by rw [d1 217 (by decide), m4], nl16, pk_mul, nI_add, wrI_n (by omega) (by omega), ob, ← hg2]
      have q2 : g2 217 23 = nI s.2.2.1 := by rw [hg2, up_a (by decide), d1 217 (by decide), m4]
      rw [q2, nI_1, ← hg3]
      have q3 : rdI g3 226 (nI b.1) = some (nI (trW f b.1)) := by
        rw [r226 (by omega), hg3, up_a (by decide), hg2, up_a (by decide), d1 226 (by decide), eW]
      have q4 : g3 217 24 = nI s.2.2.2 := by rw [hg3, up_i (by decide), hg2, up_a (by decide), d1 217 (by decide), m5]
      rw [q3, ob, q4, nI_add, ← hg4, m_nextB v hI' hM4 hH, ob]
      exact k4
theorem m_tree {g : tkH} {f : Nat → Int32} {a : Int32} (v : Vd f) (e : g 218 = f) (h0 : hrf (cN f) a = 0) : ∃ hf, MF g hf ∧ trM hf f a (trR a f (cr (hb a) 10 - 1) trO) ∧ f_X9_findTree g 217 a = some hf := by
  have n2 := v.n.2
  obtain ⟨z1, z2, z3⟩ := hrf_x n2 h0
  have cl := cr_le (hb a) 10
  obtain ⟨g1, b1, b2, b3, b4, b5⟩ := m_lk2 (a := a) v (kx := fun gz88 => (f_X9_nextBranch (tkup (tkup gz88 217 23 0) 217 24 0) 217).bind fun x99 => f_X9_findTree_L103 217 FU x99.2 x99.1) (cN f) FU 0 g (by omega) (FU_gt (by omega)) e (fun t ht => by omega) (fun u w h1 => by omega)
  have hM : trM (tkup (tkup g1 217 23 0) 217 24 0) f a trO := by
    refine ⟨by rw [up_a (by decide), up_a (by decide), b1 218 (by omega)]; exact e, fun t ht => by rw [up_a (by decide), up_a (by decide), b3 t ht]; rfl, fun u w h1 h2 => by rw [up_a (by decide), up_a (by decide)]; exact b4 u w h1 h2, fun i hi => absurd hi (Nat.not_lt_zero _), by rw [up_i (by decide), up_s]; rfl, by rw [up_s]; rfl⟩
  obtain ⟨hf, c1, c2, c3, c4⟩ := m_treeL v z1 (cr (hb a) 10 - 1) FU _ trO (FU_gt (by omega)) (trO_I a) hM (by show cr (hb a) 10 ≤ 0 + (cr (hb a) 10 - 1) + 1; omega)
  refine ⟨hf, ⟨fun q hq => by rw [c1 q hq, up_a (by omega), up_a (by omega), b1 q hq], by rw [c2 2 (by decide), up_i (by decide), up_i (by decide), b2 2 (by decide)], by rw [c2 3 (by decide), up_i (by decide), up_i (by decide), b2 3 (by decide)]⟩, c3, ?_⟩
  refine b5.trans ?_
  show (f_X9_nextBranch (tkup (tkup g1 217 23 0) 217 24 0) 217).bind _ = _
  rw [m_nextB v (trO_I a) hM z1, ob]
  exact c4
theorem trR_I {f : Nat → Int32} {a : Int32} (v : Vd f) : ∀ (k : Nat) (s : trS), trI a s → trI a (trR a f k s)
  | 0, s, h => h
  | k + 1, s, h => by
    cases e : chb (trC a s.1) (trW f) 100 with
    | none =>
      rw [trR_n (trT_n e)]
      exact h
    | some b =>
      rw [trR_s (trT_s e)]
      exact trR_I v k _ (trI_some v h (chb_ok _ _ e).1 (chb_c _ _ e)).1
theorem x_treeA {h : tkH} (I : Inv h) {a : Int32} (h0 : hrf (cN (h 218)) a = 0) : ∃ h1 h2, XK h h2 ∧ Ca h2 (h 218) ∧ trX h2 (trR a (h 218) (cr (hb a) 10 - 1) trO) ∧ f_X2_reckonHeap h 192 1 a = some h1 ∧ f_X7_grow h1 202 201 a = some h2 := by
  have v := I.1
  obtain ⟨h1, a1, a2, a3, a4⟩ := x_reckon I.2.1 v I.2.2.2.2.1 a
  obtain ⟨h2, b1, b2, b3⟩ := x_grow v h0 a3
  exact ⟨h1, h2, a1.tr b1.xf.k, a2.keep (b1 201 (by decide) (by decide) (by decide)), b2, a4, b3⟩
theorem op_tree {h : tkH} (I : Inv h) (a : Int32) : OP (f_X8_tree h 0 a) (fun g => f_X9_tree g 217 a) := by
  have v := I.1
  by_cases c : hrf (cN (h 218)) a = 0
  · obtain ⟨h1, h2, a1, a2, a3, a4, a5⟩ := x_treeA I c
    obtain ⟨h3, b1, b2, b3⟩ := m_tree (a := a) v (a1 218 (by omega)) c
    refine OP.q (h1 := h2) (h2 := h3) (r := nI (trR a (h 218) (cr (hb a) 10 - 1) trO).2.2.2) I ?_ ?_ a1.p a2 b1
    · unfold f_X8_tree
      rw [x_refusal I.2.1 v, c]
      simp only [ob]
      rw [if_pos (by decide), f00.1, f00.2.2.1, a4, ob, f00.2.2.2.1, show fld 192 1 = 201 by simp only [FL], a5, ob, a3.2.2.2]
    · show f_X9_tree h2 217 a = _
      unfold f_X9_tree
      rw [m_noHeap v (a1 218 (by omega)), c]
      simp only [ob, eq_self, if_true]
      rw [b3, ob, b2.2.2.2.2.2]
  · refine OP.f0 (c := hrf (cN (h 218)) a) I ?_ (fun g e => ?_)
    · unfold f_X8_tree
      rw [x_refusal I.2.1 v]
      simp only [ob]
      rw [if_neg (hrf_n c)]
      rfl
    · show f_X9_tree g 217 a = _
      unfold f_X9_tree
      rw [m_noHeap v (e 218 (by decide))]
      simp only [ob]
      rw [if_neg c, m_noHeap v (e 218 (by decide))]
      rfl
theorem op_branch {h : tkH} (I : Inv h) (a b : Int32) : OP (f_X8_branch h 0 a b) (fun g => f_X9_branch g 217 a b) := by
  have v := I.1
  have l204 : ln 204 = 10 := by simp only [LN]
  have l228 : ln 228 = 10 := by simp only [LN]
  by_cases c : hrf (cN (h 218)) a = 0
  · obtain ⟨h1, h2, a1, a2, a3, a4, a5⟩ := x_treeA I c
    have tI := trR_I (a := a) v (cr (hb a) 10 - 1) trO (trO_I a)
    have cl := cr_le (hb a) 10
    have t4 := tI.2.2.2.1
    generalize hs : trR a (h 218) (cr (hb a) 10 - 1) trO = s at *
    by_cases hb2 : ∃ i, i < s.2.2.1 ∧ b = nI i
    · obtain ⟨i, hi, rfl⟩ := hb2
      obtain ⟨h3, b1, b2, b3⟩ := m_tree (a := a) v (a1 218 (by omega)) c
      rw [hs] at b2
      refine OP.q (h1 := h2) (h2 := h3) (r := nI (s.2.1 i)) I ?_ ?_ a1.p a2 b1
      · unfold f_X8_branch
        rw [x_refusal I.2.1 v, c]
        simp only [ob]
        rw [if_pos (by decide), f00.1, f00.2.2.1, a4, ob, f00.2.2.2.1, show fld 192 1 = 201 by simp only [FL], a5, ob, a3.2.2.1, x_in hi (by omega)]
        simp only [ob, i1f, eq_self, if_true, if_false]
        rw [show fld 202 1 = 204 by simp only [FL], rdI_n (by omega) (by omega), ob, a3.2.1 i hi]
      · show f_X9_branch h2 217 a (nI i) = _
        unfold f_X9_branch
        rw [m_noHeap v (a1 218 (by omega)), c]
        simp only [ob, eq_self, if_true]
        rw [b3, ob, b2.2.2.2.2.1, m_inP hi (by omega)]
        simp only [ob, i1f, eq_self, if_true, if_false]
        rw [f217.2.2.2, rdI_n (by omega) (by omega), ob, b2.2.2.2.1 i hi]
    · refine OP.f (h1 := h2) (c := -100006) I a1.p a2 ?_ (fun g e => ?_)
      · unfold f_X8_branch
        rw [x_refusal I.2.1 v, c]
        simp only [ob]
        rw [if_pos (by decide), f00.1, f00.2.2.1, a4, ob, f00.2.2.2.1, show fld 192 1 = 201 by simp only [FL], a5, ob, a3.2.2.1, x_out hb2 (by omega)]
        simp only [ob, i1f, eq_self, if_true, if_false]
        rfl
      · have e218 : g 218 = h 218 := (e 218 (by decide)).trans (a1 218 (by omega))
        obtain ⟨h3, b1, b2, b3⟩ := m_tree (a := a) v e218 c
        rw [hs] at b2
        refine ⟨h3, b1, ?_⟩
        show f_X9_branch g 217 a b = _
        unfold f_X9_branch
        rw [m_noHeap v e218, c]
        simp only [ob, eq_self, if_true]
        rw [b3, ob, b2.2.2.2.2.1, m_outP hb2 (by omega)]
        simp only [ob, i1f, eq_self, if_true, if_false]
        rfl
  · refine OP.f0 (c := hrf (cN (h 218)) a) I ?_ (fun g e => ?_)
    · unfold f_X8_branch
      rw [x_refusal I.2.1 v]
      simp only [ob]
      rw [if_neg (hrf_n c)]
      rfl
    · show f_X9_branch g 217 a b = _
      unfold f_X9_branch
      rw [m_noHeap v (e 218 (by decide))]
      simp only [ob]
      rw [if_neg c, m_noHeap v (e 218 (by decide))]
      rfl
