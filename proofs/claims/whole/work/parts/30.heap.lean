/-! mould, spread: HEAPS -/
def hb (a : Int32) (t : Nat) : Bool := decide ((a >>> (nI t &&& 31)) &&& 1 = 1)
theorem an1 (x : Int32) : x &&& 1 = 0 ∨ x &&& 1 = 1 := by
  have h : x.toBitVec &&& 1#32 = 0#32 ∨ x.toBitVec &&& 1#32 = 1#32 := by
    rw [BitVec.and_one_eq_setWidth_ofBool_getLsbD]
    cases x.toBitVec.getLsbD 0
    · exact Or.inl (by decide)
    · exact Or.inr (by decide)
  rcases h with h | h
  · exact Or.inl (Int32.toBitVec_inj.mp h)
  · exact Or.inr (Int32.toBitVec_inj.mp h)
theorem x_inHeap {g : tkH} {a : Int32} {t : Nat} : f_X8_isInHeap g a (nI t) = some (if hb a t = true then 1 else 0, g) := by
  unfold f_X8_isInHeap hb
  by_cases c : (a >>> (nI t &&& 31)) &&& 1 = 1
  · rw [if_pos c, if_pos (by simp [c])]
  · rw [if_neg c, if_neg (by simp [c])]
theorem hb_t {a : Int32} {t : Nat} (c : hb a t = true) : (a >>> (nI t &&& 31)) &&& 1 = 1 := of_decide_eq_true c
theorem hb_f {a : Int32} {t : Nat} (c : ¬ hb a t = true) : ¬ (a >>> (nI t &&& 31)) &&& 1 = 1 := fun q => c (decide_eq_true q)
theorem hb_t0 {a : Int32} {t : Nat} (c : hb a t = true) : ¬ (a >>> (nI t &&& 31)) &&& 1 = 0 := by rw [hb_t c]; decide
theorem hb_f0 {a : Int32} {t : Nat} (c : ¬ hb a t = true) : (a >>> (nI t &&& 31)) &&& 1 = 0 := (an1 _).resolve_right (hb_f c)
theorem sh31 : ∀ n, n ≤ 10 → (Int32.toUInt32 (nI n) &&& Int32.toUInt32 31).toNat = n := by decide
theorem sh1n : ∀ n, n ≤ 10 → ((1 <<< (nI n &&& 31)) - 1 : Int32) = nI (2 ^ n - 1) := by decide
theorem hp_sh {a : Int32} {n : Nat} (hn : n ≤ 10) : ((Int32.toUInt32 a >>> (Int32.toUInt32 (nI n) &&& Int32.toUInt32 31)).toInt32 = 0) ↔ ∃ t, t < 2 ^ n ∧ a = nI t := by
  have e : (Int32.toUInt32 a >>> (Int32.toUInt32 (nI n) &&& Int32.toUInt32 31)).toNat = (Int32.toUInt32 a).toNat / 2 ^ n := by
    rw [UInt32.toNat_shiftRight, sh31 n hn, Nat.mod_eq_of_lt (by omega), Nat.shiftRight_eq_div_pow]
  have p : 2 ^ n ≤ 2 ^ 10 := Nat.pow_le_pow_right (by decide) hn
  constructor
  · intro q
    have q2 : Int32.toUInt32 a >>> (Int32.toUInt32 (nI n) &&& Int32.toUInt32 31) = 0 := congrArg Int32.toUInt32 q
    rw [q2] at e
    have e2 : (Int32.toUInt32 a).toNat / 2 ^ n = 0 := e.symm
    have p0 : 0 < 2 ^ n := Nat.pow_pos (by decide)
    refine ⟨(Int32.toUInt32 a).toNat, ?_, ?_⟩
    · rcases Nat.div_eq_zero_iff.mp e2 with z | z <;> omega
    · apply Int32.toBitVec_inj.mp
      show a.toBitVec = BitVec.ofNat 32 a.toBitVec.toNat
      rw [BitVec.ofNat_toNat, BitVec.setWidth_eq]
  · rintro ⟨t, ht, rfl⟩
    have z : (Int32.toUInt32 (nI t)).toNat = t := by
      show (BitVec.ofNat 32 t).toNat = t
      rw [BitVec.toNat_ofNat, Nat.mod_eq_of_lt (by omega)]
    rw [z, Nat.div_eq_of_lt ht] at e
    have : Int32.toUInt32 (nI t) >>> (Int32.toUInt32 (nI n) &&& Int32.toUInt32 31) = 0 := UInt32.toNat_inj.mp e
    rw [this]
    rfl
/-- what a HEAP is refused for, or 0 -/
noncomputable def hrf (n : Nat) (a : Int32) : Int32 := by
  classical
  exact if ∃ t, t < 2 ^ n ∧ a = nI t then (if a = 0 then -100006 else 0) else -100001
theorem x_refusal {h : tkH} {f : Nat → Int32} (r : XR h 1 f) (v : Vd f) (a : Int32) : f_X8_heapRefusal h 0 a = some (hrf (cN f) a, h) := by
  unfold f_X8_heapRefusal hrf
  rw [f00.1, r.1, v.n.1]
  by_cases c : ∃ t, t < 2 ^ cN f ∧ a = nI t
  · rw [if_pos ((hp_sh v.n.2).mpr c), if_pos c]
    by_cases z : a = 0
    · rw [if_pos z, if_pos z]
    · rw [if_neg z, if_neg z]
  · rw [if_neg (fun q => c ((hp_sh v.n.2).mp q)), if_neg c]
theorem m_noHeap {g : tkH} {f : Nat → Int32} (v : Vd f) (e : g 218 = f) (a : Int32) : f_X9_noHeap g 217 a = some (hrf (cN f) a, g) := by
  unfold f_X9_noHeap hrf
  have n := v.n.2
  have p : 2 ^ cN f ≤ 2 ^ 10 := Nat.pow_le_pow_right (by decide) n
  have p0 : 0 < 2 ^ cN f := Nat.pow_pos (by decide)
  rw [show fld 217 0 = 218 by simp only [FL], show rdI g 218 0 = some (g 218 0) from r218 (k := 0) (by decide), ob, e, v.n.1, sh1n _ n]
  by_cases c : ∃ t, t < 2 ^ cN f ∧ a = nI t
  · obtain ⟨t, ht, ea⟩ := c
    rw [if_pos ⟨t, ht, ea⟩, show f_X9_within g a 0 (nI (2 ^ cN f - 1)) = some (1, g) by rw [ea]; exact m_in (by omega) (by omega)]
    simp only [ob, i1f, if_false]
    by_cases z : a = 0
    · rw [if_pos z, if_pos z]
    · rw [if_neg z, if_neg z]
  · rw [if_neg c, m_out (by rw [show 2 ^ cN f - 1 + 1 = 2 ^ cN f by omega]; exact c) (by omega)]
    simp only [ob, eq_self, if_true]
theorem hrf_c (n : Nat) (a : Int32) : hrf n a = 0 ∨ (hrf n a = -100006) ∨ hrf n a = -100001 := by
  unfold hrf
  split
  · split
    · exact Or.inr (Or.inl rfl)
    · exact Or.inl rfl
  · exact Or.inr (Or.inr rfl)
def Kn (g : tkH) (f : Nat → Int32) (x y : Nat) : Prop := g 201 (10 * x + y) = nI (cst f x y).1
def KK (g hf : tkH) (f : Nat → Int32) : Prop := ∀ x y, x < cN f → y < cN f → Kn g f x y → Kn hf f x y
theorem x_rk15 {h : tkH} {f : Nat → Int32} (r : XR h 1 f) (v : Vd f) {a : Int32} {i : Nat} (hi : i < cN f) {kx : tkH → Option tkH} : ∀ (m n j : Nat) (g : tkH), m + j = cN f → m < n → XK h g → Ca g f → ∃ hf, XK h hf ∧ Ca hf f ∧ KK g hf f ∧ (∀ y, j ≤ y → y < cN f → hb a i = true → hb a y = true → Kn hf f i y) ∧ f_X2_reckonHeap_L13 1 a (nI i) 192 kx n g (nI j) = kx hf := by
  have n2 := v.n.2
  intro m
  induction m with
  | zero =>
    intro n j g hj hn k c
    obtain ⟨n', rfl⟩ : ∃ n', n = n' + 1 := ⟨n - 1, by omega⟩
    refine ⟨g, k, c, fun _ _ _ _ q => q, fun y h1 h2 => by omega, ?_⟩
    rw [f_X2_reckonHeap_L13_s, (r.xk k).1, v.n.1, if_pos (by rw [nI_leI (by omega) (by omega)]; omega)]
  | succ m ih =>
    intro n j g hj hn k c
    obtain ⟨n', rfl⟩ : ∃ n', n = n' + 1 := ⟨n - 1, by omega⟩
    have rg := r.xk k
    rw [f_X2_reckonHeap_L13_s, rg.1, v.n.1, if_neg (by rw [nI_leI (by omega) (by omega)]; omega), x_inHeap, nI_1]
    by_cases b1 : hb a i = true
    · rw [if_pos b1]
      simp only [ob, i1f, if_false]
      rw [x_inHeap]
      by_cases b2 : hb a j = true
      · rw [if_pos b2]
        simp only [ob, i1f, if_false]
        obtain ⟨g1, c1, c2, c3, c4, c5⟩ := x_between rg v c (a := i) (b := j) hi (by omega)
        obtain ⟨hf, d1, d2, d3, d4, d5⟩ := ih n' (j + 1) g1 (by omega) (by omega) (k.tr c1) c2
        rw [c5, ob]
        refine ⟨hf, d1, d2, fun x y hx hy q => d3 x y hx hy (c4 x y hx hy q), fun y h1 h2 h3 h4 => ?_, d5⟩
        by_cases e : y = j
        · rw [e]
          exact d3 i j hi (by omega) c3
        · exact d4 y (by omega) h2 h3 h4
      · rw [if_neg b2]
        simp only [ob, eq_self, if_true]
        obtain ⟨hf, d1, d2, d3, d4, d5⟩ := ih n' (j + 1) g (by omega) (by omega) k c
        refine ⟨hf, d1, d2, d3, fun y h1 h2 h3 h4 => ?_, d5⟩
        by_cases e : y = j
        · rw [e] at h4
          exact absurd h4 b2
        · exact d4 y (by omega) h2 h3 h4
    · rw [if_neg b1]
      simp only [ob, eq_self, if_true]
      obtain ⟨hf, d1, d2, d3, d4, d5⟩ := ih n' (j + 1) g (by omega) (by omega) k c
      exact ⟨hf, d1, d2, d3, fun y h1 h2 h3 h4 => absurd h3 b1, d5⟩
theorem x_rk2 {h : tkH} {f : Nat → Int32} (r : XR h 1 f) (v : Vd f) {a : Int32} : ∀ (m n i : Nat) (g : tkH), m + i = cN f → m < n → XK h g → Ca g f → ∃ hf, XK h hf ∧ Ca hf f ∧ KK g hf f ∧ (∀ x y, i ≤ x → x ≤ y → y < cN f → hb a x = true → hb a y = true → Kn hf f x y) ∧ f_X2_reckonHeap_L2 1 a 192 n g (nI i) = some hf := by
  have n2 := v.n.2
  intro m
  induction m with
  | zero =>
    intro n i g hi hn k c
    obtain ⟨n', rfl⟩ : ∃ n', n = n' + 1 := ⟨n - 1, by omega⟩
    refine ⟨g, k, c, fun _ _ _ _ q => q, fun x y h1 h2 h3 => by omega, ?_⟩
    rw [f_X2_reckonHeap_L2_s, (r.xk k).1, v.n.1, if_pos (by rw [nI_leI (by omega) (by omega)]; omega)]
  | succ m ih =>
    intro n i g hi hn k c
    obtain ⟨n', rfl⟩ : ∃ n', n = n' + 1 := ⟨n - 1, by omega⟩
    have rg := r.xk k
    rw [f_X2_reckonHeap_L2_s, rg.1, v.n.1, if_neg (by rw [nI_leI (by omega) (by omega)]; omega), nI_1]
    obtain ⟨g1, c1, c2, c3, c4, c5⟩ := x_rk15 r v (a := a) (i := i) (by omega) (kx := fun gz54 => f_X2_reckonHeap_L2 1 a 192 n' gz54 (nI (i + 1))) (m + 1) FU i g (by omega) (FU_gt (by omega)) k c
    obtain ⟨hf, d1, d2, d3, d4, d5⟩ := ih n' (i + 1) g1 (by omega) (by omega) c1 c2
    rw [c5]
    refine ⟨hf, d1, d2, fun x y hx hy q => d3 x y hx hy (c3 x y hx hy q), fun x y h1 h2 h3 h4 h5 => ?_, d5⟩
    by_cases e : x = i
    · rw [e] at h2 h4 ⊢
      exact d3 i y (by omega) h3 (c4 y h2 h3 h4 h5)
    · exact d4 x y (by omega) h2 h3 h4 h5
theorem x_reckon {h : tkH} {f : Nat → Int32} (r : XR h 1 f) (v : Vd f) (c : Ca h f) (a : Int32) : ∃ hf, XK h hf ∧ Ca hf f ∧ (∀ x y, x < cN f → y < cN f → hb a x = true → hb a y = true → Kn hf f x y) ∧ f_X2_reckonHeap h 192 1 a = some hf := by
  have n2 := v.n.2
  obtain ⟨hf, d1, d2, d3, d4, d5⟩ := x_rk2 r v (a := a) (cN f) FU 0 h (by omega) (FU_gt (by omega)) XK.rf c
  refine ⟨hf, d1, d2, fun x y hx hy h1 h2 => ?_, d5⟩
  by_cases e : x ≤ y
  · exact d4 x y (by omega) e hy h1 h2
  · have q := d4 y x (by omega) (by omega) hx h2 h1
    have s := d2.1 x y (by omega) (by omega)
    unfold Kn at q ⊢
    rcases (d2.2 x y (by omega) (by omega)).1 ⟨hx, hy⟩ with z | z
    · rw [q, z] at s
      exact absurd s.symm (nI_neg_one _ (Nat.lt_of_le_of_lt (cst_le v hy hx).1 (by decide)))
    · exact z
/-- the sum of a tale's COSTS to those of a HEAP -/
def smc (f : Nat → Int32) (a : Int32) (i : Nat) : Nat → Nat
  | 0 => 0
  | t + 1 => if hb a t = true then smc f a i t + (cst f i t).1 else smc f a i t
theorem smc_le {f : Nat → Int32} (v : Vd f) {a : Int32} {i : Nat} (hi : i < cN f) : ∀ t, t ≤ cN f → smc f a i t ≤ 180 * t
  | 0, _ => Nat.le_refl _
  | t + 1, h => by
    have := smc_le v (a := a) hi t (by omega)
    have c := (cst_le v hi (b := t) (by omega)).1
    unfold smc
    split <;> omega
theorem x_sumL {g : tkH} {f : Nat → Int32} (r : XR g 1 f) (v : Vd f) {a : Int32} {i : Nat} (hi : i < cN f) (hk : ∀ y, y < cN f → hb a y = true → Kn g f i y) : ∀ (m n t : Nat), m + t = cN f → m < n → f_X8_sumOfCosts_L5 0 a (nI i) n g (nI (smc f a i t)) (nI t) = some (nI (smc f a i (cN f)), g) := by
  have n2 := v.n.2
  have l : ln 201 = 100 := by simp only [LN]
  intro m
  induction m with
  | zero =>
    intro n t ht hn
    obtain ⟨n', rfl⟩ : ∃ n', n = n' + 1 := ⟨n - 1, by omega⟩
    rw [f_X8_sumOfCosts_L5_s, f00.1, r.1, v.n.1, if_pos (by rw [nI_leI (by omega) (by omega)]; omega), show t = cN f by omega]
  | succ m ih =>
    intro n t ht hn
    obtain ⟨n', rfl⟩ : ∃ n', n = n' + 1 := ⟨n - 1, by omega⟩
    rw [f_X8_sumOfCosts_L5_s, f00.1, f00.2.2.1, r.1, v.n.1, if_neg (by rw [nI_leI (by omega) (by omega)]; omega), x_inHeap, nI_1]
    have hs : smc f a i (t + 1) = if hb a t = true then smc f a i t + (cst f i t).1 else smc f a i t := rfl
    have z := ih n' (t + 1) (by omega) (by omega)
    by_cases b : hb a t = true
    · rw [if_pos b] at hs ⊢
      simp only [ob, i1f, if_false]
      have q := hk t (by omega) b
      unfold Kn at q
      rw [show fld 192 1 = 201 by simp only [FL], nl10, pk_mul, nI_add, show i * 10 + t = 10 * i + t by omega, rdI_n (by omega) (by omega), ob, q, nI_add, ← hs]
      exact z
    · rw [if_neg b] at hs ⊢
      simp only [ob, eq_self, if_true]
      rw [← hs]
      exact z
theorem m_sumL {f : Nat → Int32} (v : Vd f) {a : Int32} {i : Nat} (hi : i < cN f) : ∀ (m n t : Nat) (g : tkH), m + t = cN f → m < n → g 218 = f → ∃ hf, MG g hf ∧ f_X9_sumOf_L5 217 a (nI i) n g (nI (smc f a i t)) (nI t) = some (nI (smc f a i (cN f)), hf) := by
  have n2 := v.n.2
  have rz : ∀ g : tkH, rdI g 218 0 = some (g 218 0) := fun g => r218 (k := 0) (by decide)
  intro m
  induction m with
  | zero =>
    intro n t g ht hn e
    obtain ⟨n', rfl⟩ : ∃ n', n = n' + 1 := ⟨n - 1, by omega⟩
    refine ⟨g, MG.rf, ?_⟩
    rw [f_X9_sumOf_L5_s, show fld 217 0 = 218 by simp only [FL], rz, ob, e, v.n.1, if_pos (by rw [nI_leI (by omega) (by omega)]; omega), show t = cN f by omega]
  | succ m ih =>
    intro n t g ht hn e
    obtain ⟨n', rfl⟩ : ∃ n', n = n' + 1 := ⟨n - 1, by omega⟩
    rw [f_X9_sumOf_L5_s, show fld 217 0 = 218 by simp only [FL], rz, ob, e, v.n.1, if_neg (by rw [nI_leI (by omega) (by omega)]; omega), nI_1]
    have hs : smc f a i (t + 1) = if hb a t = true then smc f a i t + (cst f i t).1 else smc f a i t := rfl
    by_cases b : hb a t = true
    · rw [if_pos b] at hs
      rw [if_pos (hb_t b)]
      obtain ⟨g1, b1, b2, b3, b4⟩ := m_costOfG (h := g) (a := i) (b := t) (by rw [e]; exact v) (by rw [e]; exact hi) (by rw [e]; omega)
      rw [e] at b4
      obtain ⟨hf, d1, d2⟩ := ih n' (t + 1) g1 (by omega) (by omega) (b1.f.trans e)
      refine ⟨hf, b1.tr d1, ?_⟩
      rw [b4, ob, nI_add, ← hs]
      exact d2
    · rw [if_neg b] at hs
      rw [if_neg (hb_f b), show (0 : Int32) = nI 0 from rfl, nI_add, Nat.add_zero, ← hs]
      exact ih n' (t + 1) g (by omega) (by omega) e
def wm (f : Nat → Int32) (a : Int32) (i : Nat) : Nat := if i < cN f then smc f a i (cN f) else 0
theorem wm_le {f : Nat → Int32} (v : Vd f) {a : Int32} (i : Nat) : wm f a i ≤ 100000 := by
  have n := v.n.2
  unfold wm
  split
  · next h =>
    have := smc_le v (a := a) h (cN f) (Nat.le_refl _)
    omega
  · omega
theorem x_mouldL {g : tkH} {f : Nat → Int32} (r : XR g 1 f) (v : Vd f) {a : Int32} (hk : ∀ x y, x < cN f → y < cN f → hb a x = true → hb a y = true → Kn g f x y) : ∀ (m n t : Nat), m + t = cN f → m < n → f_X8_mouldOf_L7 0 a n g (eB (chb (hb a) (wm f a) t)) (eW (chb (hb a) (wm f a) t)) (nI t) = some (eB (chb (hb a) (wm f a) (cN f)), g) := by
  have n2 := v.n.2
  intro m
  induction m with
  | zero =>
    intro n t ht hn
    obtain ⟨n', rfl⟩ : ∃ n', n = n' + 1 := ⟨n - 1, by omega⟩
    rw [f_X8_mouldOf_L7_s, f00.1, r.1, v.n.1, if_pos (by rw [nI_leI (by omega) (by omega)]; omega), show t = cN f by omega]
  | succ m ih =>
    intro n t ht hn
    obtain ⟨n', rfl⟩ : ∃ n', n = n' + 1 := ⟨n - 1, by omega⟩
    rw [f_X8_mouldOf_L7_s, f00.1, r.1, v.n.1, if_neg (by rw [nI_leI (by omega) (by omega)]; omega), x_inHeap, nI_1]
    have z := ih n' (t + 1) (by omega) (by omega)
    by_cases b : hb a t = true
    · rw [if_pos b]
      simp only [ob, i1f, if_false]
      have s := x_sumL r v (a := a) (i := t) (by omega) (fun y hy h2 => hk t y (by omega) hy b h2) (cN f) FU 0 (by omega) (FU_gt (by omega))
      have s' : f_X8_sumOfCosts g 0 (nI t) a = some (nI (smc f a t (cN f)), g) := s
      have ew : wm f a t = smc f a t (cN f) := by unfold wm; rw [if_pos (by omega)]
      rw [s', ob]
      unfold f_X8_mouldOf_J47
      have key := chb_t (α := Option (Int32 × tkH)) (w := wm f a) b (by omega) (fun x _ => wm_le v x) (fun x y => f_X8_mouldOf_L7 0 a n' g x y (nI (t + 1)))
      rw [ew] at key
      rw [nI_1]
      exact key.trans z
    · rw [if_neg b]
      simp only [ob, eq_self, if_true]
      rw [chb_f b] at z
      exact z
theorem up_self (g : tkH) (k i : Nat) : tkup g k i (g k i) = g := by
  funext a j
  rw [up_eq]
  split
  · next e => rw [e.1, e.2]
  · rfl
theorem m_mouldL {f : Nat → Int32} (v : Vd f) {a : Int32} : ∀ (m n t : Nat) (g : tkH), m + t = cN f → m < n → g 218 = f → g 217 19 = eW (chb (hb a) (wm f a) t) → ∃ hf, MF g hf ∧ hf 217 19 = eW (chb (hb a) (wm f a) (cN f)) ∧ f_X9_mouldOf_L9 217 a n g (eB (chb (hb a) (wm f a) t)) (nI t) = some (eB (chb (hb a) (wm f a) (cN f)), hf) := by
  have n2 := v.n.2
  have rz : ∀ g : tkH, rdI g 218 0 = some (g 218 0) := fun g => r218 (k := 0) (by decide)
  intro m
  induction m with
  | zero =>
    intro n t g ht hn e e19
    obtain ⟨n', rfl⟩ : ∃ n', n = n' + 1 := ⟨n - 1, by omega⟩
    refine ⟨g, MF.rf, by rw [e19, show t = cN f by omega], ?_⟩
    rw [f_X9_mouldOf_L9_s, show fld 217 0 = 218 by simp only [FL], rz, ob, e, v.n.1, if_pos (by rw [nI_leI (by omega) (by omega)]; omega), show t = cN f by omega]
  | succ m ih =>
    intro n t g ht hn e e19
    obtain ⟨n', rfl⟩ : ∃ n', n = n' + 1 := ⟨n - 1, by omega⟩
    rw [f_X9_mouldOf_L9_s, show fld 217 0 = 218 by simp only [FL], rz, ob, e, v.n.1, if_neg (by rw [nI_leI (by omega) (by omega)]; omega), nI_1]
    by_cases b : hb a t = true
    · rw [if_neg (hb_t0 b)]
      obtain ⟨g1, b1, b2⟩ := m_sumL v (a := a) (i := t) (by omega) (cN f) FU 0 g (by omega) (FU_gt (by omega)) e
      have b2' : f_X9_sumOf g 217 (nI t) a = some (nI (smc f a t (cN f)), g1) := b2
      have g19 : g1 217 19 = eW (chb (hb a) (wm f a) t) := (b1.2 19 (by decide)).trans e19
      have ew : wm f a t = smc f a t (cN f) := by unfold wm; rw [if_pos (by omega)]
      have es : tkup g1 217 19 (eW (chb (hb a) (wm f a) t)) = g1 := by rw [← g19]; exact up_self _ _ _
      obtain ⟨hf, d1, d2, d3⟩ := ih n' (t + 1) (tkup g1 217 19 (eW (chb (hb a) (wm f a) (t + 1)))) (by omega) (by omega) (by rw [up_a (by decide)]; exact b1.f.trans e) up_s
      refine ⟨hf, b1.m.tr ((MF.up (by decide) (by decide)).tr d1), d2, ?_⟩
      rw [b2', ob]
      unfold f_X9_mouldOf_J51
      have key := chb_t (α := Option (Int32 × tkH)) (w := wm f a) b (by omega) (fun x _ => wm_le v x) (fun x y => f_X9_mouldOf_L9 217 a n' (tkup g1 217 19 y) x (nI (t + 1)))
      rw [ew] at key
      simp only [es] at key
      rw [nI_1]
      show (if _ then _ else if g1 217 19 ≤ _ then _ else _) = _
      rw [g19]
      exact key.trans d3
    · rw [if_pos (hb_f0 b)]
      have z := ih n' (t + 1) g (by omega) (by omega) e (by rw [chb_f b]; exact e19)
      rw [chb_f b] at z
      exact z
theorem hp_b : ((List.range 1024).all fun x => (List.range 11).all fun n => (x == 0) || decide (2 ^ n ≤ x) || (List.range n).any (hb (nI x))) = true := by decide +kernel
theorem hp_ne {x n : Nat} (hn : n ≤ 10) (hx : x < 2 ^ n) (h0 : x ≠ 0) : ∃ t, t < n ∧ hb (nI x) t = true := by
  have p : 2 ^ n ≤ 2 ^ 10 := Nat.pow_le_pow_right (by decide) hn
  have h := List.all_eq_true.mp (List.all_eq_true.mp hp_b x (List.mem_range.mpr (by omega))) n (List.mem_range.mpr (by omega))
  simp only [Bool.or_eq_true, beq_iff_eq, decide_eq_true_eq] at h
  rcases h with (h | h) | h
  · exact absurd h h0
  · omega
  · obtain ⟨t, ht, h2⟩ := List.any_eq_true.mp h
    exact ⟨t, List.mem_range.mp ht, h2⟩
theorem chb_some {c : Nat → Bool} {w : Nat → Nat} {t : Nat} (ht : c t = true) : ∀ n, t < n → ∃ b, chb c w n = some b
  | 0, h => by omega
  | n + 1, h => by
    by_cases e : c n = true
    · have : chb c w (n + 1) = (match chb c w n with
        | none => some (n, w n)
        | some b => if w n < b.2 then some (n, w n) else some b) := by
        show (if c n = true then _ else _) = _
        rw [if_pos e]
        cases chb c w n <;> rfl
      rw [this]
      cases chb c w n with
      | none => exact ⟨_, rfl⟩
      | some b =>
        by_cases q : w n < b.2
        · exact ⟨(n, w n), if_pos q⟩
        · exact ⟨b, if_neg q⟩
    · rw [chb_f e]
      exact chb_some ht n (by
        rcases Nat.lt_or_ge t n with q | q
        · exact q
        · have : t = n := by omega
          rw [this] at ht
          exact absurd ht e)
theorem chb_c {c : Nat → Bool} {w : Nat → Nat} : ∀ n b, chb c w n = some b → c b.1 = true
  | 0, b, h => by cases h
  | n + 1, b, h => by
    by_cases hc : c n = true
    · have e1 : chb c w (n + 1) = (match chb c w n with
        | none => some (n, w n)
        | some b => if w n < b.2 then some (n, w n) else some b) := by
        show (if c n = true then _ else _) = _
        rw [if_pos hc]
        cases chb c w n <;> rfl
      rw [e1] at h
      cases e : chb c w n with
      | none =>
        rw [e] at h
        cases h
        exact hc
      | some d =>
        rw [e] at h
        by_cases hl : w n < d.2
        · simp only [if_pos hl] at h
          cases h
          exact hc
        · simp only [if_neg hl] at h
          cases h
          exact chb_c n _ e
    · rw [chb_f hc] at h
      exact chb_c n b h
theorem hrf_0 {n : Nat} {a : Int32} (hn : n ≤ 10) (h : hrf n a = 0) : ∃ t, t < n ∧ hb a t = true := by
  unfold hrf at h
  by_cases c : ∃ t, t < 2 ^ n ∧ a = nI t
  · rw [if_pos c] at h
    obtain ⟨x, hx, rfl⟩ := c
    by_cases z : nI x = 0
    · rw [if_pos z] at h
      exact absurd h (by decide)
    · exact hp_ne hn hx (fun q => z (by rw [q]; rfl))
  · rw [if_neg c] at h
    exact absurd h (by decide)
theorem hrf_n {n : Nat} {a : Int32} (h : ¬ hrf n a = 0) : ¬ 0 ≤ hrf n a := by
  rcases hrf_c n a with q | q | q
  · exact absurd q h
  · rw [q]; decide
  · rw [q]; decide
theorem x_mould {h : tkH} (I : Inv h) (a : Int32) : ∃ h1, XK h h1 ∧ Ca h1 (h 218) ∧ (∀ x y, x < cN (h 218) → y < cN (h 218) → hb a x = true → hb a y = true → Kn h1 (h 218) x y) ∧ f_X2_reckonHeap h 192 1 a = some h1 ∧ f_X8_mouldOf h1 0 a = some (eB (chb (hb a) (wm (h 218) a) (cN (h 218))), h1) := by
  have v := I.1
  obtain ⟨h1, a1, a2, a3, a4⟩ := x_reckon I.2.1 v I.2.2.2.2.1 a
  exact ⟨h1, a1, a2, a3, a4, x_mouldL (I.2.1.xk a1) v a3 (cN (h 218)) FU 0 (by omega) (FU_gt (by have := v.n.2; omega))⟩
theorem m_mould {g : tkH} {f : Nat → Int32} (v : Vd f) (e : g 218 = f) (a : Int32) : ∃ hf, MF g hf ∧ hf 217 19 = eW (chb (hb a) (wm f a) (cN f)) ∧ f_X9_mouldOf g 217 a = some (eB (chb (hb a) (wm f a) (cN f)), hf) := by
  obtain ⟨hf, a1, a2, a3⟩ := m_mouldL v (a := a) (cN f) FU 0 (tkup g 217 19 0) (by omega) (FU_gt (by have := v.n.2; omega)) (by rw [up_a (by decide)]; exact e) up_s
  exact ⟨hf, (MF.up (by decide) (by decide)).tr a1, a2, a3⟩
theorem op_mould {h : tkH} (I : Inv h) (a : Int32) : OP (f_X8_mould h 0 a) (fun g => f_X9_mould g 217 a) := by
  have v := I.1
  by_cases c : hrf (cN (h 218)) a = 0
  · obtain ⟨h1, a1, a2, a3, a4, a5⟩ := x_mould I a
    obtain ⟨h2, b1, b2, b3⟩ := m_mould v (a1 218 (by omega)) a
    refine OP.q (h1 := h1) (h2 := h2) (r := eB (chb (hb a) (wm (h 218) a) (cN (h 218)))) I ?_ ?_ a1.p a2 b1
    · unfold f_X8_mould
      rw [x_refusal I.2.1 v, c]
      simp only [ob]
      rw [if_pos (by decide), f00.1, f00.2.2.1, a4, ob, a5]
      simp only [ob]
    · show f_X9_mould h1 217 a = _
      unfold f_X9_mould
      rw [m_noHeap v (a1 218 (by omega)), c]
      simp only [ob, eq_self, if_true]
      rw [b3]
      simp only [ob]
  · refine OP.f0 (c := hrf (cN (h 218)) a) I ?_ (fun g e => ?_)
    · unfold f_X8_mould
      rw [x_refusal I.2.1 v]
      simp only [ob]
      rw [if_neg (hrf_n c)]
      rfl
    · show f_X9_mould g 217 a = _
      unfold f_X9_mould
      rw [m_noHeap v (e 218 (by decide))]
      simp only [ob]
      rw [if_neg c, m_noHeap v (e 218 (by decide))]
      rfl
theorem op_spread {h : tkH} (I : Inv h) (a : Int32) : OP (f_X8_spread h 0 a) (fun g => f_X9_spread g 217 a) := by
  have v := I.1
  have n2 := v.n.2
  by_cases c : hrf (cN (h 218)) a = 0
  · obtain ⟨h1, a1, a2, a3, a4, a5⟩ := x_mould I a
    obtain ⟨h2, b1, b2, b3⟩ := m_mould v (a1 218 (by omega)) a
    obtain ⟨t, ht, hbt⟩ := hrf_0 n2 c
    obtain ⟨b, eb⟩ := chb_some (w := wm (h 218) a) hbt (cN (h 218)) ht
    have ok := chb_ok _ _ eb
    have hc : hb a b.1 = true := chb_c _ _ eb
    rw [eb] at a5 b2 b3
    have s := x_sumL (I.2.1.xk a1) v (a := a) (i := b.1) ok.1 (fun y hy h2 => a3 b.1 y ok.1 hy hc h2) (cN (h 218)) FU 0 (by omega) (FU_gt (by omega))
    have s' : f_X8_sumOfCosts h1 0 (eB (some b)) a = some (nI (smc (h 218) a b.1 (cN (h 218))), h1) := s
    have ew : eW (some b) = nI (smc (h 218) a b.1 (cN (h 218))) := by
      show nI b.2 = _
      rw [ok.2]
      unfold wm
      rw [if_pos ok.1]
    refine OP.q (h1 := h1) (h2 := h2) (r := nI (smc (h 218) a b.1 (cN (h 218)))) I ?_ ?_ a1.p a2 b1
    · unfold f_X8_spread
      rw [x_refusal I.2.1 v, c]
      simp only [ob]
      rw [if_pos (by decide), f00.1, f00.2.2.1, a4, ob, a5]
      simp only [ob]
      rw [s']
      simp only [ob]
    · show f_X9_spread h1 217 a = _
      unfold f_X9_spread
      rw [m_noHeap v (a1 218 (by omega)), c]
      simp only [ob, eq_self, if_true]
      rw [b3]
      simp only [ob]
      rw [b2, ew]
  · refine OP.f0 (c := hrf (cN (h 218)) a) I ?_ (fun g e => ?_)
    · unfold f_X8_spread
      rw [x_refusal I.2.1 v]
      simp only [ob]
      rw [if_neg (hrf_n c)]
      rfl
    · show f_X9_spread g 217 a = _
      unfold f_X9_spread
      rw [m_noHeap v (e 218 (by decide))]
      simp only [ob]
      rw [if_neg c, m_noHeap v (e 218 (by decide))]
      rfl
