/-! the reference: layBy, leastCost, costOf -/
abbrev mc (f : Nat → Int32) (a ea b eb k : Nat) : Nat → Nat → Nat := fun x y => pq (cQ f 0) (cQ f 1) k (cS f a) (cS f b) (ea - (x + 1)) (eb - (y + 1))
abbrev me (f : Nat → Int32) (ta tb : Bool) : Nat → Nat → Nat := eq_ (cQ f 2) ta tb
abbrev mW (f : Nat → Int32) (a ea : Nat) (ta : Bool) (b eb : Nat) (tb : Bool) (k : Nat) : Nat → Nat → Nat := Wp (mc f a ea b eb k) (me f ta tb) (cQ f 2)
theorem mW_le {f : Nat → Int32} {a ea b eb k : Nat} {ta tb : Bool} (x y : Nat) : mW f a ea ta b eb tb k x y ≤ 1000000 := Wp_le x y
theorem mW_0 {f : Nat → Int32} {a ea b eb k : Nat} {ta tb : Bool} (y : Nat) : mW f a ea ta b eb tb k 0 y = FAR := Wp_0 y
theorem mW_x0 {f : Nat → Int32} {a ea b eb k : Nat} {ta tb : Bool} (x : Nat) : mW f a ea ta b eb tb k x 0 = FAR := Wp_x0 x
theorem minF (F p : Nat) : min (min F (p + F)) F = F := by omega
theorem m_cell {g : tkH} {a fa ea b fb eb i j k n : Nat} {ta tb : Bool} {kx : tkH → Option (Int32 × tkH)} (hS : MS g a fa ea ta b fb eb tb) (hV : MV (g 218) a ea b eb) (hC : MC g k) (hk : k < 24) (hi : i ≤ ea) (hj : j ≤ eb) (hjf : fb ≤ j)
    (T1 : i < ea → j < eb → g 224 (11 * (i + 1) + (j + 1)) = nI (mW (g 218) a ea ta b eb tb k (ea - i - 1) (eb - j - 1)))
    (T2 : i < ea → g 224 (11 * (i + 1) + j) = nI (mW (g 218) a ea ta b eb tb k (ea - i - 1) (eb - j)))
    (T3 : j < eb → g 224 (11 * i + (j + 1)) = nI (mW (g 218) a ea ta b eb tb k (ea - i) (eb - j - 1))) :
    f_X9_layBy_L23 217 (nI i) kx (n + 1) g (nI j) = f_X9_layBy_L23 217 (nI i) kx n (tkup g 224 (11 * i + j) (nI (mW (g 218) a ea ta b eb tb k (ea - i) (eb - j)))) (nI j + (-1)) := by
  have hb := hV.b10
  have q0 := hV.1.q (j := 0) (by decide)
  have q1 := hV.1.q (j := 1) (by decide)
  have q2 := hV.1.q (j := 2) (by decide)
  obtain ⟨s8, s9, s10, s11, s12, s13, s14, s15⟩ := id hS
  have J130 : ∀ v : Nat, v < 2000000 → f_X9_layBy_J130 217 (nI i) (nI j) (f_X9_layBy_L23 217 (nI i) kx n) g (nI v) = f_X9_layBy_L23 217 (nI i) kx n (tkup g 224 (11 * i + j) (nI (min v 1000000))) (nI j + (-1)) := by
    intro v hv
    unfold f_X9_layBy_J130
    simp only [FL, nl11, pk_mul, nI_add]
    rw [w224 (by omega), nl1000000, mnI_n (by omega) (by omega)]
    rfl
  have J100 : ∀ v : Nat, v < 2000000 → f_X9_layBy_J100 217 (nI j) (nI i) (f_X9_layBy_L23 217 (nI i) kx n) g (nI v) = f_X9_layBy_L23 217 (nI i) kx n (tkup g 224 (11 * i + j) (nI (min (if j < eb then min v (cQ (g 218) 2 + mW (g 218) a ea ta b eb tb k (ea - i) (eb - j - 1)) else v) 1000000))) (nI j + (-1)) := by
    intro v hv
    unfold f_X9_layBy_J100
    simp only [s14]
    by_cases hje : j < eb
    · rw [if_neg (by rw [nI_leI (by omega) (by omega)]; omega), if_pos hje]
      simp only [FL, nl3]
      rw [r218 (by decide), q2.1]
      simp only [Option.bind_some]
      rw [nI_1, m_pairsLeft (by omega) (by omega)]
      simp only [Option.bind_some]
      have hl := mW_le (f := g 218) (a := a) (ea := ea) (b := b) (eb := eb) (k := k) (ta := ta) (tb := tb) (ea - i) (eb - j - 1)
      rw [T3 hje, nI_add, mnI_n (by omega) (by omega), J130 _ (by omega)]
    · rw [if_pos (by rw [nI_leI (by omega) (by omega)]; omega), if_neg hje]
      exact J130 v hv
  have J70 : ∀ v : Nat, v < 2000000 → f_X9_layBy_J70 217 (nI i) (nI j) (f_X9_layBy_L23 217 (nI i) kx n) g (nI v) = f_X9_layBy_L23 217 (nI i) kx n (tkup g 224 (11 * i + j) (nI (min (if j < eb then min (if i < ea then min v (cQ (g 218) 2 + mW (g 218) a ea ta b eb tb k (ea - i - 1) (eb - j)) else v) (cQ (g 218) 2 + mW (g 218) a ea ta b eb tb k (ea - i) (eb - j - 1)) else (if i < ea then min v (cQ (g 218) 2 + mW (g 218) a ea ta b eb tb k (ea - i - 1) (eb - j)) else v)) 1000000))) (nI j + (-1)) := by
    intro v hv
    unfold f_X9_layBy_J70
    simp only [s10]
    by_cases hie : i < ea
    · rw [if_neg (by rw [nI_leI (by omega) (by omega)]; omega), if_pos hie]
      simp only [FL, nl3]
      rw [r218 (by decide), q2.1]
      simp only [Option.bind_some]
      rw [nI_1, m_pairsLeft (by omega) (by omega)]
      simp only [Option.bind_some]
      have hl := mW_le (f := g 218) (a := a) (ea := ea) (b := b) (eb := eb) (k := k) (ta := ta) (tb := tb) (ea - i - 1) (eb - j)
      rw [T2 hie, nI_add, mnI_n (by omega) (by omega), J100 _ (by omega)]
    · rw [if_pos (by rw [nI_leI (by omega) (by omega)]; omega), if_neg hie]
      exact J100 v hv
  rw [f_X9_layBy_L23_s]
  simp only [s13, s10, s14]
  rw [if_neg (by rw [nI_ltI (by omega) (by omega)]; omega)]
  by_cases hie : i < ea
  · rw [if_neg (by rw [nI_leI (by omega) (by omega)]; omega)]
    by_cases hje : j < eb
    · rw [if_neg (by rw [nI_leI (by omega) (by omega)]; omega), m_pairCost hS hV hC hk hie hje]
      simp only [Option.bind_some]
      have hl := mW_le (f := g 218) (a := a) (ea := ea) (b := b) (eb := eb) (k := k) (ta := ta) (tb := tb) (ea - i - 1) (eb - j - 1)
      rw [nI_1, nI_1, m_leastFrom hS hV (by omega) (by omega) (T1 hie hje) (Wp_le _ _)]
      simp only [Option.bind_some]
      have hpq : pq (cQ (g 218) 0) (cQ (g 218) 1) k (cS (g 218) a) (cS (g 218) b) i j ≤ 100 := by
        unfold pq
        split <;> split <;> split <;> omega
      rw [nI_add, J70 _ (by omega), if_pos hje, if_pos hie]
      congr 2
      congr 1
      obtain ⟨x, hx⟩ : ∃ x, ea - i = x + 1 := ⟨ea - i - 1, by omega⟩
      obtain ⟨y, hy⟩ : ∃ y, eb - j = y + 1 := ⟨eb - j - 1, by omega⟩
      have ei : ea - (x + 1) = i := by omega
      have ej : eb - (y + 1) = j := by omega
      rw [hx, hy, show x + 1 - 1 = x from rfl, show y + 1 - 1 = y from rfl, show ea - (i + 1) = x by omega, show eb - (j + 1) = y by omega]
      show _ = Wp _ _ _ (x + 1) (y + 1)
      rw [Wp_ss]
      show _ = min (min (min (pq _ _ k _ _ (ea - (x + 1)) (eb - (y + 1)) + _) _) _) FAR
      rw [ei, ej]
      rfl
    · have hje' : j = eb := by omega
      subst hje'
      rw [if_pos (by rw [nI_leI (by omega) (by omega)]; omega), nl1000000, show nI 1000000 = nI FAR from rfl, J70 _ (by decide), if_neg hje, if_pos hie]
      congr 2
      congr 1
      rw [show j - j = 0 by omega, mW_x0, mW_x0]
      exact minF _ _
  · have hie' : i = ea := by omega
    subst hie'
    rw [if_pos (by rw [nI_leI (by omega) (by omega)]; omega), nl1000000, show nI 1000000 = nI FAR from rfl, J70 _ (by decide), if_neg hie]
    congr 2
    congr 1
    rw [show i - i = 0 by omega, mW_0, mW_0]
    split
    · exact minF _ _
    · exact Nat.min_self _
/-- which heaps have the same all but cell c -/
def BC (c : Nat) (h h' : tkH) : Prop := ∀ a, a ≠ c → h' a = h a
theorem BC.rf {c : Nat} {h : tkH} : BC c h h := fun _ _ => rfl
theorem BC.tr {c : Nat} {h1 h2 h3 : tkH} (p : BC c h1 h2) (q : BC c h2 h3) : BC c h1 h3 := fun a e => (q a e).trans (p a e)
theorem BC.up {c i : Nat} {h : tkH} {v : Int32} : BC c h (tkup h c i v) := fun _ e => up_a e
theorem MS.bc {h h' : tkH} {a fa ea b fb eb : Nat} {ta tb : Bool} (hS : MS h a fa ea ta b fb eb tb) (e : h' 217 = h 217) : MS h' a fa ea ta b fb eb tb := by
  unfold MS
  rw [e]
  exact hS
theorem MC.bc {h h' : tkH} {k : Nat} (hC : MC h k) (e : h' 223 = h 223) : MC h' k := by
  unfold MC
  rw [e]
  exact hC
/-- the table's rows from i0 on are reckoned -/
def TM (g : tkH) (f : Nat → Int32) (a ea : Nat) (ta : Bool) (b fb eb : Nat) (tb : Bool) (k i0 : Nat) : Prop := ∀ i j, i0 ≤ i → i ≤ ea → fb ≤ j → j ≤ eb → g 224 (11 * i + j) = nI (mW f a ea ta b eb tb k (ea - i) (eb - j))
theorem m_row {a fa ea b fb eb i k : Nat} {ta tb : Bool} {kx : tkH → Option (Int32 × tkH)} (hk : k < 24) (hi : i ≤ ea) (hfb : fb ≤ eb) : ∀ (m n : Nat) (g : tkH), m < n → m ≤ eb - fb + 1 → MS g a fa ea ta b fb eb tb → MV (g 218) a ea b eb → MC g k →
    TM g (g 218) a ea ta b fb eb tb k (i + 1) → (∀ j, fb + m ≤ j → j ≤ eb → g 224 (11 * i + j) = nI (mW (g 218) a ea ta b eb tb k (ea - i) (eb - j))) →
    ∃ hf, BC 224 g hf ∧ TM hf (g 218) a ea ta b fb eb tb k i ∧ f_X9_layBy_L23 217 (nI i) kx n g (nI (fb + m) + (-1)) = kx hf := by
  intro m
  induction m with
  | zero =>
    intro n g hn _ hS hV hC hT hR
    obtain ⟨n', rfl⟩ : ∃ n', n = n' + 1 := ⟨n - 1, by omega⟩
    have hb := hV.b10
    refine ⟨g, BC.rf, fun i' j h1 h2 h3 h4 => ?_, ?_⟩
    · by_cases e : i' = i
      · subst e
        exact hR j (by omega) h4
      · exact hT i' j (by omega) h2 h3 h4
    · rw [f_X9_layBy_L23_s, hS.2.2.2.2.2.1, if_pos]
      rw [Int32.lt_iff_toInt_lt, nI_toInt (show fb < 2 ^ 31 by omega)]
      cases fb with
      | zero => decide
      | succ x =>
        rw [show x + 1 + 0 = x + 1 from rfl, pk_m1, nI_toInt (by omega)]
        omega
  | succ m ih =>
    intro n g hn hm hS hV hC hT hR
    obtain ⟨n', rfl⟩ : ∃ n', n = n' + 1 := ⟨n - 1, by omega⟩
    have hb := hV.b10
    rw [show fb + (m + 1) = fb + m + 1 by omega, pk_m1]
    rw [m_cell hS hV hC hk hi (by omega) (by omega)
      (fun h1 h2 => by rw [hT (i + 1) (fb + m + 1) (by omega) (by omega) (by omega) (by omega)]; rfl)
      (fun h1 => by rw [hT (i + 1) (fb + m) (by omega) (by omega) (by omega) (by omega)]; rfl)
      (fun h2 => by rw [hR (fb + m + 1) (by omega) (by omega)]; rfl)]
    have e218 : tkup g 224 (11 * i + (fb + m)) (nI (mW (g 218) a ea ta b eb tb k (ea - i) (eb - (fb + m)))) 218 = g 218 := up_a (by decide)
    obtain ⟨hf, h1, h2, h3⟩ := ih n' (tkup g 224 (11 * i + (fb + m)) (nI (mW (g 218) a ea ta b eb tb k (ea - i) (eb - (fb + m))))) (by omega) (by omega) (hS.bc (up_a (by decide))) (by rw [e218]; exact hV) (hC.bc (up_a (by decide)))
      (by
        intro i' j h1 h2 h3 h4
        rw [e218, up_i (by omega)]
        exact hT i' j h1 h2 h3 h4)
      (by
        intro j h1 h2
        rw [e218]
        by_cases e : j = fb + m
        · subst e
          rw [up_s]
        · rw [up_i (by omega)]
          exact hR j (by omega) h2)
    refine ⟨hf, BC.tr BC.up h1, ?_, h3⟩
    rw [e218] at h2
    exact h2
theorem m_rows {a fa ea b fb eb k : Nat} {ta tb : Bool} {kx : tkH → Option (Int32 × tkH)} (hk : k < 24) (hfa : fa ≤ ea) (hfb : fb ≤ eb) : ∀ (m n : Nat) (g : tkH), m < n → m ≤ ea - fa + 1 → MS g a fa ea ta b fb eb tb → MV (g 218) a ea b eb → MC g k →
    TM g (g 218) a ea ta b fb eb tb k (fa + m) →
    ∃ hf, BC 224 g hf ∧ TM hf (g 218) a ea ta b fb eb tb k fa ∧ f_X9_layBy_L10 217 kx n g (nI (fa + m) + (-1)) = kx hf := by
  intro m
  induction m with
  | zero =>
    intro n g hn _ hS hV hC hT
    obtain ⟨n', rfl⟩ : ∃ n', n = n' + 1 := ⟨n - 1, by omega⟩
    have hb := hV.b10
    refine ⟨g, BC.rf, hT, ?_⟩
    rw [f_X9_layBy_L10_s, hS.2.1, if_pos]
    rw [Int32.lt_iff_toInt_lt, nI_toInt (show fa < 2 ^ 31 by omega)]
    cases fa with
    | zero => decide
    | succ x =>
      rw [show x + 1 + 0 = x + 1 from rfl, pk_m1, nI_toInt (by omega)]
      omega
  | succ m ih =>
    intro n g hn hm hS hV hC hT
    obtain ⟨n', rfl⟩ : ∃ n', n = n' + 1 := ⟨n - 1, by omega⟩
    have hb := hV.b10
    rw [show fa + (m + 1) = fa + m + 1 by omega, pk_m1]
    rw [f_X9_layBy_L10_s, hS.2.1, if_neg (by rw [nI_ltI (by omega) (by omega)]; omega), hS.2.2.2.2.2.2.1]
    obtain ⟨hf, h1, h2, h3⟩ := m_row (kx := fun gz154 => f_X9_layBy_L10 217 kx n' gz154 (nI (fa + m) + (-1))) hk (i := fa + m) (by omega) hfb (eb - fb + 1) FU g (FU_gt (by omega)) (Nat.le_refl _) hS hV hC hT (fun j h1 h2 => by omega)
    rw [show fb + (eb - fb + 1) = eb + 1 by omega, pk_m1] at h3
    rw [h3]
    have e218 : hf 218 = g 218 := h1 218 (by decide)
    obtain ⟨hf2, g1, g2, g3⟩ := ih n' hf (by omega) (by omega) (hS.bc (h1 217 (by decide))) (by rw [e218]; exact hV) (hC.bc (h1 223 (by decide))) (by rw [e218]; exact h2)
    exact ⟨hf2, BC.tr h1 g1, by rw [e218] at g2; exact g2, g3⟩
/-- layBy: by the k-th CARRYING -/
theorem m_layBy {h : tkH} {a fa ea b fb eb k : Nat} {ta tb : Bool} (hk : k < 24) (hfa : fa ≤ ea) (hfb : fb ≤ eb) (hS : MS h a fa ea ta b fb eb tb) (hV : MV (h 218) a ea b eb) :
    ∃ hf, (∀ q, q ≠ 223 → q ≠ 224 → hf q = h q) ∧ MC hf k ∧ TM hf (h 218) a ea ta b fb eb tb k fa ∧ f_X9_layBy h 217 (nI k) = some (nI (gq (cQ (h 218) 0) (cQ (h 218) 1) (cQ (h 218) 2) (cS (h 218) a) (ea - fa) ea ta (cS (h 218) b) (eb - fb) eb tb k), hf) := by
  have hb := hV.b10
  have q2 := hV.1.q (j := 2) (by decide)
  unfold f_X9_layBy
  rw [m_carry hk]
  simp only [Option.bind_some]
  have e218 : crs h k 218 = h 218 := crs_a (by decide)
  have e217 : crs h k 217 = h 217 := crs_a (by decide)
  obtain ⟨hf, h1, h2, h3⟩ := m_rows (kx := fun gz160 => (f_X9_leastFrom gz160 217 (gz160 217 9) (gz160 217 13)).bind fun x169 => some (x169.1, x169.2)) hk hfa hfb (ea - fa + 1) FU (crs h k) (FU_gt (by omega)) (Nat.le_refl _) (hS.bc e217) (by rw [e218]; exact hV) (MC_crs hk) (fun i j g1 g2 => by omega)
  rw [show fa + (ea - fa + 1) = ea + 1 by omega, pk_m1] at h3
  rw [e217, hS.2.2.1, h3]
  have f218 : hf 218 = h 218 := (h1 218 (by decide)).trans e218
  have f217 : hf 217 = h 217 := (h1 217 (by decide)).trans e217
  rw [e218] at h2
  refine ⟨hf, fun q g1 g2 => (h1 q g2).trans (crs_a g1), (MC_crs hk).bc (h1 223 (by decide)), h2, ?_⟩
  have hS' := hS.bc f217
  rw [hS'.2.1, hS'.2.2.2.2.2.1, m_leastFrom hS' (by rw [f218]; exact hV) hfa hfb (h2 fa fb (Nat.le_refl _) hfa (Nat.le_refl _) hfb) (Wp_le _ _)]
  simp only [Option.bind_some, f218]
  unfold gq
  rw [Rr_eq (eq1 _ _ _) (eq2 _ _ _) (fun x y hx hy => Nat.lt_of_le_of_lt (eq_le q2.2 ta tb hx hy) (by decide)) _ _ (by omega) (by omega)]
