/-! tree, branch: the next BRANCH as the first of the least over places 10 * lower + higher -/
def trC (a : Int32) (p : Nat → Nat) (t : Nat) : Bool := decide (t / 10 < t % 10) && hb a (t / 10) && hb a (t % 10) && decide (p (t / 10) ≠ p (t % 10))
def trW (f : Nat → Int32) (t : Nat) : Nat := if t / 10 < cN f ∧ t % 10 < cN f then (cst f (t / 10) (t % 10)).1 else 0
theorem trW_le {f : Nat → Int32} (v : Vd f) (t : Nat) : trW f t ≤ 180 := by
  unfold trW
  split
  · next h => exact (cst_le v h.1 h.2).1
  · exact Nat.zero_le _
theorem trC_at {a : Int32} {p : Nat → Nat} {lo hi : Nat} (hh : hi < 10) : trC a p (10 * lo + hi) = (decide (lo < hi) && hb a lo && hb a hi && decide (p lo ≠ p hi)) := by
  unfold trC
  rw [show (10 * lo + hi) / 10 = lo by omega, show (10 * lo + hi) % 10 = hi by omega]
theorem trC_d {a : Int32} {p : Nat → Nat} {t : Nat} (h : trC a p t = true) : t / 10 < t % 10 ∧ hb a (t / 10) = true ∧ hb a (t % 10) = true ∧ p (t / 10) ≠ p (t % 10) := by
  unfold trC at h
  simp only [Bool.and_eq_true, decide_eq_true_eq] at h
  exact ⟨h.1.1.1, h.1.1.2, h.1.2, h.2⟩
theorem chb_skip {c : Nat → Bool} {w : Nat → Nat} {m : Nat} : ∀ d, (∀ t, m ≤ t → t < m + d → ¬ c t = true) → chb c w (m + d) = chb c w m
  | 0, _ => rfl
  | d + 1, h => by
    rw [show m + (d + 1) = (m + d) + 1 by omega, chb_f (h (m + d) (by omega) (by omega))]
    exact chb_skip d (fun t h1 h2 => h t h1 (by omega))
theorem chb_n {c : Nat → Bool} {w : Nat → Nat} {t : Nat} (hc : c t = true) (e : chb c w t = none) : chb c w (t + 1) = some (t, w t) := by
  show (if c t = true then _ else _) = _
  rw [if_pos hc, e]
theorem chb_s {c : Nat → Bool} {w : Nat → Nat} {t : Nat} {b : Nat × Nat} (hc : c t = true) (e : chb c w t = some b) : chb c w (t + 1) = if w t < b.2 then some (t, w t) else some b := by
  show (if c t = true then _ else _) = _
  rw [if_pos hc, e]
/-- the class's search -/
theorem x_sc18 {g : tkH} {f : Nat → Int32} {a : Int32} {p : Nat → Nat} (v : Vd f) (hp : ∀ t, t < 10 → g 203 t = nI (p t)) (hp1 : ∀ t, t < 10 → p t < 10) (hK : ∀ x, x < 100 → trC a p x = true → g 201 x = nI (trW f x)) {kx : tkH → Int32 → Option tkH} {lo : Nat} (hlo : lo < 10) : ∀ (m n hi : Nat), m + hi = 10 → lo < hi → m < n → f_X7_addBranch_L18 a (nI lo) 202 201 kx n g (eB (chb (trC a p) (trW f) (10 * lo + hi))) (nI hi) = kx g (eB (chb (trC a p) (trW f) (10 * lo + 10))) := by
  have l203 : ln 203 = 10 := by simp only [LN]
  have l201 : ln 201 = 100 := by simp only [LN]
  intro m
  induction m with
  | zero =>
    intro n hi h1 h2 hn
    obtain ⟨n', rfl⟩ : ∃ n', n = n' + 1 := ⟨n - 1, by omega⟩
    rw [f_X7_addBranch_L18_s, if_pos (by rw [nl10, nI_leI (by omega) (by omega)]; omega), show hi = 10 by omega]
  | succ m ih =>
    intro n hi h1 h2 hn
    obtain ⟨n', rfl⟩ : ∃ n', n = n' + 1 := ⟨n - 1, by omega⟩
    have z := ih n' (hi + 1) (by omega) (by omega) (by omega)
    rw [show 10 * lo + (hi + 1) = 10 * lo + hi + 1 by omega] at z
    rw [f_X7_addBranch_L18_s, if_neg (by rw [nl10, nI_leI (by omega) (by omega)]; omega), x_inHeap]
    by_cases b1 : hb a lo = true
    · rw [if_pos b1]
      simp only [ob, i1f, eq_self, if_true, if_false]
      rw [x_inHeap]
      by_cases b2 : hb a hi = true
      · rw [if_pos b2]
        simp only [ob, i1f, eq_self, if_true, if_false]
        unfold f_X7_addBranch_J48
        simp only [i1f, if_false]
        rw [show fld 202 0 = 203 by simp only [FL], rdI_n (by omega) (by omega), ob, rdI_n (by omega) (by omega), ob, hp lo (by omega), hp hi (by omega)]
        have q1 := hp1 lo (by omega)
        have q2 := hp1 hi (by omega)
        by_cases b3 : p lo = p hi
        · have hc : ¬ trC a p (10 * lo + hi) = true := by rw [trC_at (by omega)]; simp [b3]
          rw [if_pos (by rw [b3]), nI_1]
          rw [chb_f hc] at z
          exact z
        · have hc : trC a p (10 * lo + hi) = true := by rw [trC_at (by omega)]; simp [b1, b2, b3, h2]
          rw [if_neg (nIne (by omega) (by omega) b3), nl10, pk_mul, nI_add, show lo * 10 + hi = 10 * lo + hi by omega, nI_1]
          cases e : chb (trC a p) (trW f) (10 * lo + hi) with
          | none =>
            rw [if_pos (show eB none < 0 by decide)]
            rw [chb_n hc e] at z
            exact z
          | some b =>
            have ok := chb_ok _ _ e
            have cb := chb_c _ _ e
            have w1 := trW_le v b.1
            have w2 := trW_le v (10 * lo + hi)
            rw [if_neg (show ¬ eB (some b) < 0 from nI_pos (n := b.1) (by omega)), rdI_n (by omega) (by omega), ob, hK _ (by omega) hc]
            have eb : eB (some b) = nI b.1 := rfl
            rw [eb, rdI_n (by omega) (by omega), ob, hK _ (by omega) cb]
            rw [chb_s hc e, ok.2] at z
            by_cases hl : trW f (10 * lo + hi) < trW f b.1
            · rw [if_pos hl] at z
              rw [if_neg (by rw [nI_leI (by omega) (by omega)]; omega)]
              exact z
            · rw [if_neg hl] at z
              rw [if_pos (by rw [nI_leI (by omega) (by omega)]; omega)]
              exact z
      · have hc : ¬ trC a p (10 * lo + hi) = true := by rw [trC_at (by omega)]; simp [b2]
        rw [if_neg b2]
        simp only [ob, i1f, eq_self, if_true, if_false]
        unfold f_X7_addBranch_J47 f_X7_addBranch_J48
        simp only [eq_self, if_true]
        rw [nI_1]
        rw [chb_f hc] at z
        exact z
    · have hc : ¬ trC a p (10 * lo + hi) = true := by rw [trC_at (by omega)]; simp [b1]
      rw [if_neg b1]
      simp only [ob, i1f, eq_self, if_true, if_false]
      unfold f_X7_addBranch_J47 f_X7_addBranch_J48
      simp only [eq_self, if_true]
      rw [nI_1]
      rw [chb_f hc] at z
      exact z
theorem trC_row {a : Int32} {p : Nat → Nat} {lo : Nat} (hlo : lo < 10) (w : Nat → Nat) : chb (trC a p) w (10 * lo + (lo + 1)) = chb (trC a p) w (10 * lo) :=
  chb_skip (lo + 1) (fun t h1 h2 q => by
    have := (trC_d q).1
    omega)
theorem x_sc5 {g : tkH} {f : Nat → Int32} {a : Int32} {p : Nat → Nat} (v : Vd f) (hp : ∀ t, t < 10 → g 203 t = nI (p t)) (hp1 : ∀ t, t < 10 → p t < 10) (hK : ∀ x, x < 100 → trC a p x = true → g 201 x = nI (trW f x)) {kx : tkH → Int32 → Option tkH} : ∀ (m n lo : Nat), m + lo = 10 → m < n → f_X7_addBranch_L5 a 202 201 kx n g (eB (chb (trC a p) (trW f) (10 * lo))) (nI lo) = kx g (eB (chb (trC a p) (trW f) 100)) := by
  intro m
  induction m with
  | zero =>
    intro n lo h1 hn
    obtain ⟨n', rfl⟩ : ∃ n', n = n' + 1 := ⟨n - 1, by omega⟩
    rw [f_X7_addBranch_L5_s, if_pos (by rw [nl10, nI_leI (by omega) (by omega)]; omega), show 10 * lo = 100 by omega]
  | succ m ih =>
    intro n lo h1 hn
    obtain ⟨n', rfl⟩ : ∃ n', n = n' + 1 := ⟨n - 1, by omega⟩
    rw [f_X7_addBranch_L5_s, if_neg (by rw [nl10, nI_leI (by omega) (by omega)]; omega), nI_1, ← trC_row (by omega)]
    refine (x_sc18 v hp hp1 hK (lo := lo) (by omega) (9 - lo) FU (lo + 1) (by omega) (by omega) (FU_gt (by omega))).trans ?_
    show f_X7_addBranch_L5 a 202 201 kx n' g _ (nI (lo + 1)) = _
    exact ih n' (lo + 1) (by omega) (by omega)
/-! how many of 0 .. n-1 -/
def cr (q : Nat → Bool) : Nat → Nat
  | 0 => 0
  | n + 1 => cr q n + (if q n = true then 1 else 0)
theorem cr_le (q : Nat → Bool) : ∀ n, cr q n ≤ n
  | 0 => Nat.le_refl _
  | n + 1 => by
    have := cr_le q n
    unfold cr
    split <;> omega
theorem cr_congr {q q' : Nat → Bool} : ∀ n, (∀ t, t < n → q t = q' t) → cr q n = cr q' n
  | 0, _ => rfl
  | n + 1, h => by
    unfold cr
    rw [cr_congr n (fun t ht => h t (by omega)), h n (by omega)]
theorem cr_rm {q q' : Nat → Bool} {r : Nat} (h1 : q r = true) (h2 : ¬ q' r = true) (h : ∀ t, t ≠ r → q t = q' t) : ∀ n, r < n → cr q n = cr q' n + 1
  | 0, hr => absurd hr (Nat.not_lt_zero _)
  | n + 1, hr => by
    unfold cr
    by_cases e : r = n
    · subst e
      rw [cr_congr r (fun t ht => h t (by omega)), if_pos h1, if_neg h2]
    · rw [cr_rm h1 h2 h n (by omega), h n (by omega)]
      omega
theorem cr_one {q : Nat → Bool} {r : Nat} (h1 : q r = true) : ∀ n, r < n → 1 ≤ cr q n
  | 0, hr => absurd hr (Nat.not_lt_zero _)
  | n + 1, hr => by
    unfold cr
    by_cases e : r = n
    · subst e
      rw [if_pos h1]
      omega
    · have := cr_one h1 n (by omega)
      omega
theorem cr_two {q : Nat → Bool} {r s : Nat} (h1 : q r = true) (h2 : q s = true) (hn : r ≠ s) : ∀ n, r < n → s < n → 2 ≤ cr q n
  | 0, hr, _ => absurd hr (Nat.not_lt_zero _)
  | n + 1, hr, hs => by
    unfold cr
    by_cases e : r = n
    · subst e
      rw [if_pos h1]
      have := cr_one h2 r (by omega)
      omega
    · by_cases e2 : s = n
      · subst e2
        rw [if_pos h2]
        have := cr_one h1 s (by omega)
        omega
      · have := cr_two h1 h2 hn n (by omega) (by omega)
        omega
/-! the row of steps by which a tree grows: parts, BRANCHES, how many, their sum -/
abbrev trS : Type := (Nat → Nat) × (Nat → Nat) × Nat × Nat
def trJ (p : Nat → Nat) (b : Nat) : Nat → Nat := fun t => if p t = p (b % 10) then p (b / 10) else p t
def trK (f : Nat → Int32) (s : trS) (b : Nat) : trS := (trJ s.1 b, fun i => if i = s.2.2.1 then 16 * (b / 10) + b % 10 else s.2.1 i, s.2.2.1 + 1, s.2.2.2 + trW f b)
def trT (a : Int32) (f : Nat → Int32) (s : trS) : Option trS := match chb (trC a s.1) (trW f) 100 with
  | none => none
  | some b => some (trK f s b.1)
def trR (a : Int32) (f : Nat → Int32) : Nat → trS → trS
  | 0, s => s
  | k + 1, s => match trT a f s with
    | none => s
    | some s' => trR a f k s'
theorem trT_n {a : Int32} {f : Nat → Int32} {s : trS} (e : chb (trC a s.1) (trW f) 100 = none) : trT a f s = none := by
  unfold trT
  rw [e]
theorem trT_s {a : Int32} {f : Nat → Int32} {s : trS} {b : Nat × Nat} (e : chb (trC a s.1) (trW f) 100 = some b) : trT a f s = some (trK f s b.1) := by
  unfold trT
  rw [e]
theorem trR_n {a : Int32} {f : Nat → Int32} {s : trS} (e : trT a f s = none) : ∀ k, trR a f k s = s
  | 0 => rfl
  | k + 1 => by
    unfold trR
    rw [e]
theorem trR_s {a : Int32} {f : Nat → Int32} {s s' : trS} (e : trT a f s = some s') (k : Nat) : trR a f (k + 1) s = trR a f k s' := by
  show (match trT a f s with
    | none => s
    | some s' => trR a f k s') = _
  rw [e]
def trq (a : Int32) (p : Nat → Nat) (t : Nat) : Bool := hb a t && decide (p t = t)
def trI (a : Int32) (s : trS) : Prop := (∀ t, t < 10 → s.1 t < 10) ∧ (∀ t, t < 10 → hb a t = true → hb a (s.1 t) = true) ∧ (∀ t, t < 10 → s.1 (s.1 t) = s.1 t) ∧ s.2.2.1 + cr (trq a s.1) 10 = cr (hb a) 10 ∧ s.2.2.2 ≤ 180 * s.2.2.1
theorem trq_p {a : Int32} {s : trS} (h : trI a s) {t : Nat} (ht : t < 10) (hb : hb a t = true) : trq a s.1 (s.1 t) = true := by
  unfold trq
  rw [h.2.1 t ht hb, h.2.2.1 t ht]
  simp
theorem trI_none {a : Int32} {f : Nat → Int32} {s : trS} (h : trI a s) (hc : cr (trq a s.1) 10 ≤ 1) : chb (trC a s.1) (trW f) 100 = none := by
  cases e : chb (trC a s.1) (trW f) 100 with
  | none => rfl
  | some b =>
    exfalso
    have ok := chb_ok _ _ e
    obtain ⟨c1, c2, c3, c4⟩ := trC_d (chb_c _ _ e)
    have := cr_two (trq_p h (t := b.1 / 10) (by omega) c2) (trq_p h (t := b.1 % 10) (by omega) c3) c4 10 (h.1 _ (by omega)) (h.1 _ (by omega))
    omega
theorem trI_some {a : Int32} {f : Nat → Int32} {s : trS} (v : Vd f) (h : trI a s) {b : Nat} (hb1 : b < 100) (hc : trC a s.1 b = true) : trI a (trK f s b) ∧ s.2.2.1 ≤ 8 := by
  obtain ⟨c1, c2, c3, c4⟩ := trC_d hc
  have two := cr_two (trq_p h (t := b / 10) (by omega) c2) (trq_p h (t := b % 10) (by omega) c3) c4 10 (h.1 _ (by omega)) (h.1 _ (by omega))
  obtain ⟨i1, i2, i3, i4, i5⟩ := id h
  have w := trW_le v b
  have cl := cr_le (hb a) 10
  have r1 := i3 (b / 10) (by omega)
  have r2 := i3 (b % 10) (by omega)
  have J : ∀ t, trJ s.1 b t = if s.1 t = s.1 (b % 10) then s.1 (b / 10) else s.1 t := fun _ => rfl
  have rm : cr (trq a s.1) 10 = cr (trq a (trJ s.1 b)) 10 + 1 := by
    refine cr_rm (r := s.1 (b % 10)) (trq_p h (by omega) c3) ?_ (fun t ht => ?_) 10 (i1 _ (by omega))
    · unfold trq
      rw [J, r2, if_pos rfl]
      simp [c4]
    · unfold trq
      rw [J]
      by_cases e : s.1 t = s.1 (b % 10)
      · rw [if_pos e]
        have n1 : ¬ s.1 t = t := fun q => ht (by rw [← e, q])
        have n2 : ¬ s.1 (b / 10) = t := fun q => c4 (by rw [← r1, q, e])
        simp [n1, n2]
      · rw [if_neg e]
  refine ⟨⟨fun t ht => ?_, fun t ht hbt => ?_, fun t ht => ?_, ?_, ?_⟩, by omega⟩
  · show trJ s.1 b t < 10
    rw [J]
    split
    · exact i1 _ (by omega)
    · exact i1 t ht
  · show hb a (trJ s.1 b t) = true
    rw [J]
    split
    · exact i2 _ (by omega) c2
    · exact i2 t ht hbt
  · show trJ s.1 b (trJ s.1 b t) = trJ s.1 b t
    rw [J t]
    by_cases e : s.1 t = s.1 (b % 10)
    · rw [if_pos e, J, r1, if_neg c4]
    · rw [if_neg e, J, i3 t ht, if_neg e]
  · show s.2.2.1 + 1 + cr (trq a (trJ s.1 b)) 10 = cr (hb a) 10
    omega
  · show s.2.2.2 + trW f b ≤ 180 * (s.2.2.1 + 1)
    omega
