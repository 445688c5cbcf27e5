/-! first, print: chains that end -/
theorem pgn : ∀ (n : Nat) (p : Nat → Nat), (∀ i, i ≤ n → p i < n) → ∃ i j, i < j ∧ j ≤ n ∧ p i = p j := by
  intro n
  induction n with
  | zero =>
    intro p h
    have := h 0 (Nat.le_refl _)
    omega
  | succ n ih =>
    intro p h
    by_cases c : ∃ i, i ≤ n ∧ p i = p (n + 1)
    · obtain ⟨i, hi, e⟩ := c
      exact ⟨i, n + 1, by omega, by omega, e⟩
    · have hn : ∀ i, i ≤ n → p i ≠ p (n + 1) := fun i hi e => c ⟨i, hi, e⟩
      obtain ⟨i, j, h1, h2, e⟩ := ih (fun i => if p i = n then p (n + 1) else p i) (fun i hi => by
        have a1 := h i (by omega)
        have a2 := hn i hi
        have a3 := h (n + 1) (by omega)
        show (if p i = n then p (n + 1) else p i) < n
        split <;> omega)
      refine ⟨i, j, h1, by omega, ?_⟩
      have e' : (if p i = n then p (n + 1) else p i) = (if p j = n then p (n + 1) else p j) := e
      have b1 := hn i (by omega)
      have b2 := hn j (by omega)
      split at e' <;> split at e' <;> omega
theorem it_add (s : Nat → Option Nat) : ∀ (a b x : Nat), it s (a + b) x = (it s a x).bind (it s b)
  | 0, b, x => by rw [it_0, ob, Nat.zero_add]
  | a + 1, b, x => by
    rw [show a + 1 + b = (a + b) + 1 by omega, it_s, it_s]
    cases s x with
    | none => rw [obn, obn, obn]
    | some y => rw [ob, ob]; exact it_add s a b y
theorem it_mono {s : Nat → Option Nat} {m x : Nat} (k : Nat) (h : it s m x = none) : it s (m + k) x = none := by
  rw [it_add, h, obn]
/-- a chain that ends ends within n steps, where there are n of them -/
theorem it_pg {s : Nat → Option Nat} {n x m : Nat} (hs : ∀ y z, y < n → s y = some z → z < n) (hx : x < n) (h : it s m x = none) : it s n x = none := by
  cases hn : it s n x with
  | none => rfl
  | some y0 =>
    exfalso
    have A : ∀ k, k ≤ n → ∃ y, it s k x = some y := fun k hk => by
      cases e : it s k x with
      | none =>
        have := it_mono (n - k) e
        rw [show k + (n - k) = n by omega, hn] at this
        cases this
      | some y => exact ⟨y, rfl⟩
    have B : ∀ k y, it s k x = some y → y < n := by
      intro k
      induction k with
      | zero => intro y e; rw [it_0] at e; cases e; exact hx
      | succ k ih =>
        intro y e
        rw [it_add] at e
        cases e2 : it s k x with
        | none => rw [e2, obn] at e; cases e
        | some z =>
          rw [e2, ob, it_s] at e
          cases e3 : s z with
          | none => rw [e3, obn] at e; cases e
          | some w =>
            rw [e3, ob, it_0] at e
            cases e
            exact hs z _ (ih z e2) e3
    obtain ⟨i, j, h1, h2, e⟩ := pgn n (fun k => (it s k x).getD 0) (fun k hk => by
      obtain ⟨y, ey⟩ := A k hk
      show (it s k x).getD 0 < n
      rw [ey]
      exact B k y ey)
    have e' : (it s i x).getD 0 = (it s j x).getD 0 := e
    obtain ⟨y, ey⟩ := A i (by omega)
    obtain ⟨z, ez⟩ := A j h2
    rw [ey, ez] at e'
    have yz : y = z := e'
    subst yz
    have C : it s (j - i) y = some y := by
      have := it_add s i (j - i) x
      rw [show i + (j - i) = j by omega, ez, ey, ob] at this
      exact this.symm
    have D : ∀ k, it s (k * (j - i)) y = some y := by
      intro k
      induction k with
      | zero => rw [Nat.zero_mul, it_0]
      | succ k ih => rw [Nat.succ_mul, it_add, ih, ob, C]
    have E := it_add s i (m * (j - i)) x
    rw [ey, ob, D m] at E
    have ge : m ≤ i + m * (j - i) := by
      have : m * 1 ≤ m * (j - i) := Nat.mul_le_mul_left m (by omega)
      omega
    have F := it_mono (i + m * (j - i) - m) h
    rw [show m + (i + m * (j - i) - m) = i + m * (j - i) by omega, E] at F
    cases F
/-- the last of a chain, if it ends in m steps -/
def fin_ (s : Nat → Option Nat) : Nat → Nat → Option Nat
  | 0, _ => none
  | m + 1, x => match s x with
    | none => some x
    | some y => fin_ s m y
theorem fin_it {s : Nat → Option Nat} : ∀ m x, fin_ s m x = none ↔ it s m x ≠ none
  | 0, x => by
    rw [it_0]
    exact ⟨fun _ q => (by cases q), fun _ => rfl⟩
  | m + 1, x => by
    show (match s x with | none => some x | some y => fin_ s m y) = none ↔ _
    rw [it_s]
    cases s x with
    | none =>
      rw [obn]
      exact ⟨fun q => (by cases q), fun q => absurd rfl q⟩
    | some y =>
      rw [ob]
      exact fin_it m y
theorem fin_mono {s : Nat → Option Nat} : ∀ m k x y, fin_ s m x = some y → fin_ s (m + k) x = some y
  | 0, k, x, y, h => by cases h
  | m + 1, k, x, y, h => by
    rw [show m + 1 + k = (m + k) + 1 by omega]
    show (match s x with | none => some x | some y => fin_ s (m + k) y) = _
    have h' : (match s x with | none => some x | some y => fin_ s m y) = some y := h
    cases e : s x with
    | none => rw [e] at h'; exact h'
    | some z => rw [e] at h'; exact fin_mono m k z y h'
theorem fin_pg {s : Nat → Option Nat} {n x : Nat} (k : Nat) (hs : ∀ y z, y < n → s y = some z → z < n) (hx : x < n) : fin_ s (n + k) x = fin_ s n x := by
  cases e : fin_ s n x with
  | some y => exact fin_mono n k x y e
  | none =>
    rw [fin_it] at e ⊢
    exact fun q => e (it_pg hs hx q)
theorem x_firstL {h : tkH} {f : Nat → Int32} (r : XR h 1 f) (v : Vd f) {kx : tkH → Option (Int32 × tkH)} : ∀ (m n t x : Nat) (g : tkH), m + t = cN f → m < n → x < cN f → XK h g → Ca g f → ∃ hf, XK h hf ∧ Ca hf f ∧ f_X8_first_L22 0 kx n g (nI x) (nI t) = (match fin_ (src f) m x with | none => kx hf | some y => some (nI y, hf)) := by
  have n2 := v.n.2
  intro m
  induction m with
  | zero =>
    intro n t x g ht hn hx k c
    obtain ⟨n', rfl⟩ : ∃ n', n = n' + 1 := ⟨n - 1, by omega⟩
    refine ⟨g, k, c, ?_⟩
    rw [f_X8_first_L22_s, f00.1, (r.xk k).1, v.n.1, if_pos (by rw [nI_leI (by omega) (by omega)]; omega)]
    rfl
  | succ m ih =>
    intro n t x g ht hn hx k c
    obtain ⟨n', rfl⟩ : ∃ n', n = n' + 1 := ⟨n - 1, by omega⟩
    have rg := r.xk k
    obtain ⟨g1, b1, b2, b3⟩ := x_sourceOf rg v hx c
    rw [f_X8_first_L22_s, f00.1, rg.1, v.n.1, if_neg (by rw [nI_leI (by omega) (by omega)]; omega), b3, ob]
    cases e : src f x with
    | none =>
      refine ⟨g1, k.tr b1, b2, ?_⟩
      rw [if_neg (eS_neg rfl)]
      show _ = (match (match src f x with | none => some x | some y => fin_ (src f) m y) with | none => kx g1 | some y => some (nI y, g1))
      rw [e]
    | some q =>
      have hq := src_lt v hx e
      obtain ⟨hf, d1, d2, d3⟩ := ih n' (t + 1) q g1 (by omega) (by omega) hq (k.tr b1) b2
      refine ⟨hf, d1, d2, ?_⟩
      rw [if_pos (eS_pos rfl (by omega)), nI_1]
      show f_X8_first_L22 0 kx n' g1 (nI q) (nI (t + 1)) = (match (match src f x with | none => some x | some y => fin_ (src f) m y) with | none => kx hf | some y => some (nI y, hf))
      rw [e]
      exact d3
theorem m_firstL {f : Nat → Int32} (v : Vd f) {kx : tkH → Option (Int32 × tkH)} : ∀ (m n t x : Nat) (g : tkH), m + t = 11 → m < n → x < cN f → g 218 = f → ∃ hf, MF g hf ∧ f_X9_first_L19 217 kx n g (nI x) (nI t) = (match fin_ (src f) m x with | none => kx hf | some y => some (nI y, hf)) := by
  have n2 := v.n.2
  intro m
  induction m with
  | zero =>
    intro n t x g ht hn hx e
    obtain ⟨n', rfl⟩ : ∃ n', n = n' + 1 := ⟨n - 1, by omega⟩
    refine ⟨g, MF.rf, ?_⟩
    rw [f_X9_first_L19_s, nl10, if_pos (by rw [nI_ltI (by omega) (by omega)]; omega)]
    rfl
  | succ m ih =>
    intro n t x g ht hn hx e
    obtain ⟨n', rfl⟩ : ∃ n', n = n' + 1 := ⟨n - 1, by omega⟩
    obtain ⟨g1, b1, b3⟩ := m_sourceOf v e hx
    rw [f_X9_first_L19_s, nl10, if_neg (by rw [nI_ltI (by omega) (by omega)]; omega), b3, ob]
    cases e2 : src f x with
    | none =>
      refine ⟨g1, b1, ?_⟩
      rw [if_neg (eS_neg rfl)]
      show _ = (match (match src f x with | none => some x | some y => fin_ (src f) m y) with | none => kx g1 | some y => some (nI y, g1))
      rw [e2]
    | some q =>
      have hq := src_lt v hx e2
      obtain ⟨hf, d1, d3⟩ := ih n' (t + 1) q g1 (by omega) (by omega) hq (b1.f.trans e)
      refine ⟨hf, b1.tr d1, ?_⟩
      rw [if_pos (eS_pos rfl (by omega)), nI_1]
      show f_X9_first_L19 217 kx n' g1 (nI q) (nI (t + 1)) = (match (match src f x with | none => some x | some y => fin_ (src f) m y) with | none => kx hf | some y => some (nI y, hf))
      rw [e2]
      exact d3
theorem op_first {h : tkH} (I : Inv h) (a : Int32) : OP (f_X8_first h 0 a) (fun g => f_X9_first g 217 a) := by
  have v := I.1
  have n2 := v.n.2
  by_cases ha : ∃ t, t < cN (h 218) ∧ a = nI t
  · obtain ⟨t, ht, rfl⟩ := ha
    obtain ⟨h1, d1, d2, d3⟩ := x_firstL I.2.1 v (kx := fun gz56 => (f_X8_finding gz56 0 (-100007)).bind fun x59 => some (x59.1, x59.2)) (cN (h 218)) FU 0 t h (by omega) (FU_gt (by omega)) ht XK.rf I.2.2.2.2.1
    have d3' : f_X8_first_L22 0 (fun gz56 => (f_X8_finding gz56 0 (-100007)).bind fun x59 => some (x59.1, x59.2)) FU h (nI t) 0 = _ := d3
    have hM : ∀ g : tkH, g 218 = h 218 → ∃ hf, MF g hf ∧ f_X9_first g 217 (nI t) = (match fin_ (src (h 218)) (cN (h 218)) t with | none => some (-100007, tkup hf 217 3 (hf 217 3 + 1)) | some y => some (nI y, hf)) := by
      intro g e
      obtain ⟨hf, c1, c2⟩ := m_firstL (kx := fun gz48 => (f_X9_finding gz48 217 (-100007)).bind fun x51 => some (x51.1, x51.2)) v 11 FU 0 t g (by omega) (FU_gt (by omega)) ht e
      have c2' : f_X9_first_L19 217 (fun gz48 => (f_X9_finding gz48 217 (-100007)).bind fun x51 => some (x51.1, x51.2)) FU g (nI t) 0 = _ := c2
      refine ⟨hf, c1, ?_⟩
      unfold f_X9_first
      rw [m_isTale_t (n := cN (h 218)) (by rw [e]; exact v.n.1) n2 ht]
      simp only [ob, i1f, eq_self, if_true, if_false]
      rw [c2', show 11 = cN (h 218) + (11 - cN (h 218)) by omega, fin_pg _ (fun y z hy hz => src_lt v hy hz) ht]
      rfl
    have hX : f_X8_first h 0 (nI t) = (match fin_ (src (h 218)) (cN (h 218)) t with | none => some (-100007, tkup h1 0 6 (h1 0 6 + 1)) | some y => some (nI y, h1)) := by
      unfold f_X8_first
      rw [f00.1, x_hasTale_t I.x0 n2 ht]
      simp only [ob, i1f, eq_self, if_true, if_false]
      rw [d3']
      rfl
    cases c : fin_ (src (h 218)) (cN (h 218)) t with
    | some y =>
      rw [c] at hX
      obtain ⟨h2, m1, m2⟩ := hM h1 (d1 218 (by omega))
      rw [c] at m2
      exact OP.q (h1 := h1) (h2 := h2) I hX m2 d1.p d2 m1
    | none =>
      rw [c] at hX
      refine OP.f (h1 := h1) I d1.p d2 hX (fun g e => ?_)
      obtain ⟨h2, m1, m2⟩ := hM g ((e 218 (by decide)).trans (d1 218 (by omega)))
      rw [c] at m2
      exact ⟨h2, m1, m2⟩
  · refine OP.f0 (c := -100001) I ?_ (fun g e => ?_)
    · unfold f_X8_first
      rw [f00.1, x_hasTale_f I.x0 n2 ha]
      simp only [ob, i1f, eq_self, if_true, if_false]
      rfl
    · show f_X9_first g 217 a = _
      unfold f_X9_first
      rw [m_isTale_f (n := cN (h 218)) (by rw [e 218 (by decide)]; exact v.n.1) n2 ha]
      simp only [ob, i1f, eq_self, if_true, if_false]
      rfl
/-- whether a chain of prints comes to a tale -/
def hit (s : Nat → Option Nat) (a : Nat) : Nat → Option Nat → Bool
  | 0, _ => false
  | _ + 1, none => false
  | m + 1, some x => if x = a then true else hit s a m (s x)
theorem prt_eS {f : Nat → Int32} (v : Vd f) {a : Nat} (ha : a < cN f) : f (80 + a) = eS (prt f a) := by
  rcases (v.2.2.2.1 a ha).2.2.2.2.1 with z | ⟨q, hq, z⟩
  · have : prt f a = none := by unfold prt; rw [z, if_pos (by decide)]
    rw [this, z]
    rfl
  · have n := v.n.2
    have : prt f a = some q := by unfold prt; rw [z, if_neg (nI_pos (by omega)), nI_clamp (by omega)]
    rw [this, z]
    rfl
theorem x_lead {g : tkH} {f : Nat → Int32} (r : XR g 1 f) (v : Vd f) {a : Nat} (ha : a < cN f) : ∀ (m n t : Nat) (o : Option Nat), m + t = 10 → m < n → (∀ q, o = some q → q < cN f) → f_X0_printsLeadTo_L5 (nI a) 1 n g (eS o) (nI t) = some (if hit (prt f) a m o = true then 1 else 0, g) := by
  have n2 := v.n.2
  have l5 : ln 5 = 10 := by simp only [LN]
  intro m
  induction m with
  | zero =>
    intro n t o ht hn ho
    obtain ⟨n', rfl⟩ : ∃ n', n = n' + 1 := ⟨n - 1, by omega⟩
    rw [f_X0_printsLeadTo_L5_s, nl10, if_pos (by rw [nI_leI (by omega) (by omega)]; omega)]
    rfl
  | succ m ih =>
    intro n t o ht hn ho
    obtain ⟨n', rfl⟩ : ∃ n', n = n' + 1 := ⟨n - 1, by omega⟩
    rw [f_X0_printsLeadTo_L5_s, nl10, if_neg (by rw [nI_leI (by omega) (by omega)]; omega)]
    cases o with
    | none =>
      rw [if_pos (show eS none < 0 by decide)]
      rfl
    | some q =>
      have hq := ho q rfl
      rw [if_neg (show ¬ eS (some q) < 0 from nI_pos (by omega))]
      by_cases e : q = a
      · rw [if_pos (show eS (some q) = nI a by rw [e]; rfl), if_pos (show hit (prt f) a (m + 1) (some q) = true from if_pos e)]
      · rw [if_neg (show ¬ eS (some q) = nI a from nIne (by omega) (by omega) e), show fld 1 4 = 5 by simp only [FL], show eS (some q) = nI q from rfl, rdI_n (by omega) (by omega), ob, (r.2.1 q hq).2.2.2.1, prt_eS v hq, nI_1, ih n' (t + 1) (prt f q) (by omega) (by omega) (fun z hz => prt_lt v hq hz), show hit (prt f) a (m + 1) (some q) = hit (prt f) a m (prt f q) from if_neg e]
theorem m_lead {g : tkH} {f : Nat → Int32} (v : Vd f) (e218 : g 218 = f) {a : Nat} (ha : a < cN f) {k1 k2 : tkH → Option (Int32 × tkH)} : ∀ (m n : Nat) (o : Option Nat), m < n → (∀ q, o = some q → q < cN f) → o.bind (it (prt f) m) = none → f_X9_print_L50 (nI a) 217 k1 k2 n g (eS o) = if hit (prt f) a m o = true then k1 g else k2 g := by
  have n2 := v.n.2
  intro m
  induction m with
  | zero =>
    intro n o hn ho hb
    obtain ⟨n', rfl⟩ : ∃ n', n = n' + 1 := ⟨n - 1, by omega⟩
    cases o with
    | none =>
      rw [f_X9_print_L50_s, if_pos (show eS none < 0 by decide)]
      rfl
    | some q => rw [ob, it_0] at hb; cases hb
  | succ m ih =>
    intro n o hn ho hb
    obtain ⟨n', rfl⟩ : ∃ n', n = n' + 1 := ⟨n - 1, by omega⟩
    rw [f_X9_print_L50_s]
    cases o with
    | none =>
      rw [if_pos (show eS none < 0 by decide)]
      rfl
    | some q =>
      have hq := ho q rfl
      rw [ob, it_s] at hb
      rw [if_neg (show ¬ eS (some q) < 0 from nI_pos (by omega))]
      by_cases e : q = a
      · rw [if_pos (show eS (some q) = nI a by rw [e]; rfl), if_pos (show hit (prt f) a (m + 1) (some q) = true from if_pos e)]
      · rw [if_neg (show ¬ eS (some q) = nI a from nIne (by omega) (by omega) e), show fld 217 0 = 218 by simp only [FL], show eS (some q) = nI q from rfl, nl80, nI_add, r218 (by omega), ob, e218, prt_eS v hq, ih n' (prt f q) (by omega) (fun z hz => prt_lt v hq hz) hb, show hit (prt f) a (m + 1) (some q) = hit (prt f) a m (prt f q) from if_neg e]
theorem prt_end {f : Nat → Int32} (v : Vd f) {q : Nat} (hq : q < cN f) : it (prt f) 10 q = none := by
  obtain ⟨m, hm⟩ := v.2.2.2.2 q hq
  have := it_mono (10 - cN f) (it_pg (n := cN f) (fun y z hy hz => prt_lt v hy hz) hq hm)
  have n := v.n.2
  rw [show cN f + (10 - cN f) = 10 by omega] at this
  exact this
theorem hit_ext {s s' : Nat → Option Nat} {a : Nat} (e : ∀ x, x ≠ a → s' x = s x) : ∀ m o, hit s a m o = false → o.bind (it s' m) = o.bind (it s m)
  | 0, none, _ => by rw [obn, obn]
  | 0, some x, _ => by rw [ob, ob, it_0, it_0]
  | m + 1, none, _ => by rw [obn, obn]
  | m + 1, some x, h => by
    rw [ob, ob, it_s, it_s]
    by_cases q : x = a
    · have : hit s a (m + 1) (some x) = true := if_pos q
      rw [this] at h
      cases h
    · rw [e x q]
      have : hit s a (m + 1) (some x) = hit s a m (s x) := if_neg q
      rw [this] at h
      exact hit_ext e m (s x) h
/-- a print set that leads not back: all chains still end -/
theorem Vd.print {f : Nat → Int32} (v : Vd f) {a : Nat} (ha : a < cN f) {o : Option Nat} (ho : ∀ q, o = some q → q < cN f) (hh : hit (prt f) a 10 o = false) : Vd (upd f (80 + a) (eS o)) := by
  have n := v.n.2
  have eN : cN (upd f (80 + a) (eS o)) = cN f := by unfold cN; rw [upd_n (by omega)]
  have eL : ∀ t, t < 10 → cL (upd f (80 + a) (eS o)) t = cL f t := fun t ht => by unfold cL; rw [upd_n (by omega)]
  have eP : ∀ t, t ≠ a → prt (upd f (80 + a) (eS o)) t = prt f t := fun t ht => by unfold prt; rw [upd_n (by omega)]
  have eA : prt (upd f (80 + a) (eS o)) a = o := by
    unfold prt
    rw [upd_s]
    cases o with
    | none => rw [if_pos (by decide)]
    | some q =>
      have := ho q rfl
      rw [show eS (some q) = nI q from rfl, if_neg (nI_pos (by omega)), nI_clamp (by omega)]
  have e10 : o.bind (it (prt f) 10) = none := by
    cases o with
    | none => rw [obn]
    | some q => rw [ob]; exact prt_end v (ho q rfl)
  have T : ∀ i y, (i < 80 ∨ 90 ≤ i) → tN (f i) y → tN (upd f (80 + a) (eS o) i) y := fun i y hi h => by rw [upd_n (by omega)]; exact h
  refine ⟨T _ _ (by omega) v.1, fun j hj => T _ _ (by omega) (v.2.1 j hj), fun j hj => T _ _ (by omega) (v.2.2.1 j hj), fun t ht => ?_, fun t ht => ?_⟩
  · rw [eN] at ht
    obtain ⟨v1, v2, v3, v4, v5, v6⟩ := v.2.2.2.1 t ht
    refine ⟨T _ _ (by omega) v1, T _ _ (by omega) v2, T _ _ (by omega) v3, T _ _ (by omega) v4, ?_, fun i hi => ?_⟩
    · rw [eN]
      by_cases e : t = a
      · rw [e, upd_s]
        cases o with
        | none => exact Or.inl rfl
        | some q => exact Or.inr ⟨q, ho q rfl, rfl⟩
      · rw [upd_n (by omega)]
        exact v5
    · rw [eL t (by omega)] at hi
      obtain ⟨w1, w2, w3⟩ := v6 i hi
      exact ⟨T _ _ (by omega) w1, T _ _ (by omega) w2, T _ _ (by omega) w3⟩
  · rw [eN] at ht
    have A : it (prt (upd f (80 + a) (eS o))) 11 a = none := by
      rw [it_s, eA]
      exact (hit_ext eP 10 o hh).trans e10
    have B : ∀ m u, it (prt f) m u = none → ∃ m', it (prt (upd f (80 + a) (eS o))) m' u = none := by
      intro m
      induction m with
      | zero => intro u h; rw [it_0] at h; cases h
      | succ m ih =>
        intro u h
        by_cases e : u = a
        · rw [e]
          exact ⟨11, A⟩
        · rw [it_s] at h
          cases e2 : prt f u with
          | none => exact ⟨1, by rw [it_s, eP u e, e2, obn]⟩
          | some w =>
            rw [e2, ob] at h
            obtain ⟨m', hm⟩ := ih w h
            exact ⟨m' + 1, by rw [it_s, eP u e, e2, ob, hm]⟩
    obtain ⟨m, hm⟩ := v.2.2.2.2 t ht
    exact B m t hm
theorem printJ {h : tkH} (I : Inv h) {t : Nat} (ht : t < cN (h 218)) {o : Option Nat} (ho : ∀ q, o = some q → q < cN (h 218)) {X : Option (Int32 × tkH)} {M : tkH → Option (Int32 × tkH)} (eqX : X = f_X8_print_J34 0 (nI t) (eS o) h) (eqM : ∀ g : tkH, g 218 = h 218 → M g = f_X9_print_J28 217 (nI t) (eS o) g) : OP X M := by
  have v := I.1
  have n2 := v.n.2
  have kk := v.k ht
  have l2 : ln 2 = 10 := by simp only [LN]
  have l5 : ln 5 = 10 := by simp only [LN]
  have e10 : o.bind (it (prt (h 218)) 10) = none := by
    cases o with
    | none => rw [obn]
    | some q => rw [ob]; exact prt_end v (ho q rfl)
  have x1 : rdI h 2 (nI t) = some (nI (cK (h 218) t)) := by rw [rdI_n (by omega) (by omega), (I.2.1.2.1 t ht).1, kk.1]
  have y1 : ∀ g : tkH, g 218 = h 218 → rdI g 218 (40 + nI t) = some (nI (cK (h 218) t)) := fun g e => by rw [nl40, nI_add, r218 (by omega), e, kk.1]
  have xl := x_lead I.2.1 v ht 10 FU 0 o (by omega) (FU_gt (by omega)) ho
  have xl' : f_X0_printsLeadTo h 1 (eS o) (nI t) = _ := xl
  by_cases c1 : cK (h 218) t = 3
  · have c3 : nI (cK (h 218) t) = 3 := by rw [c1]; rfl
    cases c2 : hit (prt (h 218)) t 10 o with
    | true =>
      refine OP.f0 (c := -100007) I ?_ (fun g e => ?_)
      · rw [eqX]
        unfold f_X8_print_J34
        rw [f00.1, show fld 1 1 = 2 by simp only [FL], x1, ob, if_pos c3, xl', c2]
        simp only [ob, i1f, eq_self, if_true, if_false]
        rfl
      · rw [eqM g (e 218 (by decide))]
        unfold f_X9_print_J28
        rw [show fld 217 0 = 218 by simp only [FL], y1 g (e 218 (by decide)), ob, if_pos c3, m_lead v (e 218 (by decide)) ht 10 FU o (FU_gt (by omega)) ho e10, c2, if_pos rfl]
        rfl
    | false =>
      obtain ⟨h1, k1, k2, K⟩ := mutK I
      obtain ⟨hk, m1, m2, m3, m4⟩ := K (tkup h1 5 t (eS o)) (fun z g1 g2 => by rw [up_a (by omega)]) (by rw [up_a (by decide)])
      have e5 : h1 5 = h 5 := k2 5 (by omega)
      have eX : tkup h1 5 t (eS o) 218 = h 218 := by rw [up_a (by decide), k2 218 (by omega)]
      refine ⟨h 218 (80 + t), tkup h1 5 t (eS o), tkup hk 218 (80 + t) (eS o), ?_, ?_, m4 _ (fun q e => up_a e) ?_ ?_ ?_⟩
      · rw [eqX]
        unfold f_X8_print_J34
        rw [f00.1, f00.2.1, show fld 1 1 = 2 by simp only [FL], x1, ob, if_pos c3, xl', c2]
        simp only [ob, Bool.false_eq_true, i1f, eq_self, if_true, if_false]
        rw [k1, ob, show fld 1 4 = 5 by simp only [FL], rdI_n (by omega) (by omega), ob, wrI_n (by omega) (by omega), ob, e5, (I.2.1.2.1 t ht).2.2.2.1]
      · rw [eqM _ eX]
        unfold f_X9_print_J28
        rw [show fld 217 0 = 218 by simp only [FL], y1 _ eX, ob, if_pos c3, m_lead v eX ht 10 FU o (FU_gt (by omega)) ho e10, c2, if_neg (by decide)]
        show (f_X9_keep (tkup h1 5 t (eS o)) 217).bind _ = _
        rw [m1, ob, nl80, nI_add, r218 (by omega), ob, w218 (by omega), ob, m2]
      · rw [up218, m2]
        exact v.print ht ho c2
      · rw [up218, m2]
        obtain ⟨x0, x1, x2, x3⟩ := I.2.1
        have U : ∀ i, i < 80 ∨ 90 ≤ i → upd (h 218) (80 + t) (eS o) i = h 218 i := fun i hi => by rw [upd_n (by omega)]
        have eN : cN (upd (h 218) (80 + t) (eS o)) = cN (h 218) := by unfold cN; rw [U 0 (by omega)]
        have q : ∀ q, q ≤ 9 → q ≠ 5 → tkup h1 5 t (eS o) q = h q := fun q hq e => by rw [up_a e, k2 q (by omega)]
        refine ⟨by rw [q 1 (by omega) (by omega), U 0 (by omega)]; exact x0, fun u hu => ?_, fun j hj => by rw [q 8 (by omega) (by omega), U _ (by omega)]; exact x2 j hj, fun j hj => by rw [q 9 (by omega) (by omega), U _ (by omega)]; exact x3 j hj⟩
        rw [eN] at hu
        obtain ⟨w1, w2, w3, w4, w5, w6⟩ := x1 u hu
        rw [q 2 (by omega) (by omega), q 3 (by omega) (by omega), q 4 (by omega) (by omega), q 6 (by omega) (by omega), q 7 (by omega) (by omega), U (40 + u) (by omega), U (50 + u) (by omega), U (60 + u) (by omega), U (70 + u) (by omega)]
        refine ⟨w1, w2, w3, ?_, w5, fun i hi => ?_⟩
        · by_cases e : u = t
          · rw [e, upd_s]
            show tkup h1 5 t (eS o) 5 t = eS o
            rw [up_s]
          · rw [upd_n (by omega)]
            show tkup h1 5 t (eS o) 5 u = _
            rw [up_i e, e5]
            exact w4
        · have eL : cL (upd (h 218) (80 + t) (eS o)) u = cL (h 218) u := by unfold cL; rw [U _ (by omega)]
          rw [eL] at hi
          rw [U _ (by omega), U _ (by omega), U _ (by omega)]
          exact w6 i hi
      · rw [up218, m2]
        have U : ∀ i, i < 80 ∨ 90 ≤ i → upd (h 218) (80 + t) (eS o) i = h 218 i := fun i hi => by rw [upd_n (by omega)]
        have eN : cN (upd (h 218) (80 + t) (eS o)) = cN (h 218) := by unfold cN; rw [U 0 (by omega)]
        exact I.2.2.2.2.1.to (by rw [up_a (by decide), k2 201 (by omega)]) eN (fun a b ha hb => by rw [cst_congr (fun j hj => U _ (by omega)) ⟨U _ (by omega), U _ (by omega), fun i w hi hw => U _ (by omega)⟩ ⟨U _ (by omega), U _ (by omega), fun i w hi hw => U _ (by omega)⟩])
  · have c3 : ¬ nI (cK (h 218) t) = 3 := nIne (b := 3) (by omega) (by decide) c1
    refine OP.f0 (c := -100004) I ?_ (fun g e => ?_)
    · rw [eqX]
      unfold f_X8_print_J34
      rw [f00.1, show fld 1 1 = 2 by simp only [FL], x1, ob, if_neg c3]
      rfl
    · rw [eqM g (e 218 (by decide))]
      unfold f_X9_print_J28
      rw [show fld 217 0 = 218 by simp only [FL], y1 g (e 218 (by decide)), ob, if_neg c3]
      rfl
theorem op_print {h : tkH} (I : Inv h) (a b : Int32) : OP (f_X8_print h 0 a b) (fun g => f_X9_print g 217 a b) := by
  have v := I.1
  have n2 := v.n.2
  by_cases ha : ∃ t, t < cN (h 218) ∧ a = nI t
  · obtain ⟨t, ht, rfl⟩ := ha
    by_cases hb : b = -1
    · refine printJ I ht (o := none) (fun q e => by cases e) ?_ (fun g e => ?_)
      · unfold f_X8_print
        rw [f00.1, x_hasTale_t I.x0 n2 ht]
        simp only [ob, i1f, eq_self, if_true, if_false]
        rw [if_pos hb, hb]
        rfl
      · show f_X9_print g 217 (nI t) b = _
        unfold f_X9_print
        rw [m_isTale_t (n := cN (h 218)) (by rw [e]; exact v.n.1) n2 ht]
        simp only [ob, i1f, eq_self, if_true, if_false]
        rw [if_pos hb, hb]
        rfl
    · by_cases hq : ∃ t, t < cN (h 218) ∧ b = nI t
      · obtain ⟨q, hq, rfl⟩ := hq
        refine printJ I ht (o := some q) (fun z e => by cases e; exact hq) ?_ (fun g e => ?_)
        · unfold f_X8_print
          rw [f00.1, x_hasTale_t I.x0 n2 ht]
          simp only [ob, i1f, eq_self, if_true, if_false]
          rw [if_neg hb, x_hasTale_t I.x0 n2 hq]
          simp only [ob, i1f, eq_self, if_true, if_false]
          rfl
        · show f_X9_print g 217 (nI t) (nI q) = _
          unfold f_X9_print
          rw [m_isTale_t (n := cN (h 218)) (by rw [e]; exact v.n.1) n2 ht]
          simp only [ob, i1f, eq_self, if_true, if_false]
          rw [if_neg hb, m_isTale_t (n := cN (h 218)) (by rw [e]; exact v.n.1) n2 hq]
          simp only [ob, i1f, eq_self, if_true, if_false]
          rfl
      · refine OP.f0 (c := -100001) I ?_ (fun g e => ?_)
        · unfold f_X8_print f_X8_print_J27
          rw [f00.1, x_hasTale_t I.x0 n2 ht]
          simp only [ob, i1f, eq_self, if_true, if_false]
          rw [if_neg hb, x_hasTale_f I.x0 n2 hq]
          simp only [ob, i1f, eq_self, if_true, if_false]
          rfl
        · show f_X9_print g 217 (nI t) b = _
          unfold f_X9_print f_X9_print_J21
          rw [m_isTale_t (n := cN (h 218)) (by rw [e 218 (by decide)]; exact v.n.1) n2 ht]
          simp only [ob, i1f, eq_self, if_true, if_false]
          rw [if_neg hb, m_isTale_f (n := cN (h 218)) (by rw [e 218 (by decide)]; exact v.n.1) n2 hq]
          simp only [ob, i1f, eq_self, if_true, if_false]
          rfl
  · refine OP.f0 (c := -100001) I ?_ (fun g e => ?_)
    · unfold f_X8_print f_X8_print_J27
      rw [f00.1, x_hasTale_f I.x0 n2 ha]
      simp only [ob, i1f, eq_self, if_true, if_false]
      rfl
    · show f_X9_print g 217 a b = _
      unfold f_X9_print f_X9_print_J21
      rw [m_isTale_f (n := cN (h 218)) (by rw [e 218 (by decide)]; exact v.n.1) n2 ha]
      simp only [ob, i1f, eq_self, if_true, if_false]
      rfl
