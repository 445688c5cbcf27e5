/-! nearest, source: the first of the least among those that may be -/
def chb (c : Nat → Bool) (w : Nat → Nat) : Nat → Option (Nat × Nat)
  | 0 => none
  | t + 1 => if c t = true then (match chb c w t with
    | none => some (t, w t)
    | some b => if w t < b.2 then some (t, w t) else some b) else chb c w t
def eB (o : Option (Nat × Nat)) : Int32 := match o with
  | none => -1
  | some b => nI b.1
def eW (o : Option (Nat × Nat)) : Int32 := match o with
  | none => 0
  | some b => nI b.2
theorem chb_ok {c : Nat → Bool} {w : Nat → Nat} : ∀ n b, chb c w n = some b → b.1 < n ∧ b.2 = w b.1
  | 0, b, h => by cases h
  | n + 1, b, h => by
    unfold chb at h
    by_cases hc : c n = true
    · rw [if_pos hc] at h
      cases e : chb c w n with
      | none =>
        rw [e] at h
        cases h
        exact ⟨Nat.lt_succ_self _, rfl⟩
      | some d =>
        rw [e] at h
        have := chb_ok n d e
        by_cases hl : w n < d.2
        · simp only [if_pos hl] at h
          cases h
          exact ⟨Nat.lt_succ_self _, rfl⟩
        · simp only [if_neg hl] at h
          cases h
          exact ⟨by omega, this.2⟩
    · rw [if_neg hc] at h
      have := chb_ok n b h
      exact ⟨by omega, this.2⟩
theorem chb_f {c : Nat → Bool} {w : Nat → Nat} {t : Nat} (h : ¬ c t = true) : chb c w (t + 1) = chb c w t := by
  show (if c t = true then _ else _) = _
  rw [if_neg h]
theorem chb_t {α : Type} {c : Nat → Bool} {w : Nat → Nat} {t : Nat} (hc : c t = true) (ht : t < 100) (hw : ∀ x, x ≤ t → w x ≤ 100000) (K : Int32 → Int32 → α) :
    (if eB (chb c w t) < 0 then K (nI t) (nI (w t)) else if eW (chb c w t) ≤ nI (w t) then K (eB (chb c w t)) (eW (chb c w t)) else K (nI t) (nI (w t))) = K (eB (chb c w (t + 1))) (eW (chb c w (t + 1))) := by
  have e1 : chb c w (t + 1) = (match chb c w t with
    | none => some (t, w t)
    | some b => if w t < b.2 then some (t, w t) else some b) := by
    show (if c t = true then _ else _) = _
    rw [if_pos hc]
  have wt := hw t (Nat.le_refl _)
  cases e : chb c w t with
  | none =>
    rw [e1, e, if_pos (by decide)]
    rfl
  | some d =>
    have hd := chb_ok t d e
    have wd := hw d.1 (by omega)
    rw [e1, e]
    have n1 : ¬ eB (some d) < 0 := nI_pos (n := d.1) (by omega)
    rw [if_neg n1]
    by_cases hl : w t < d.2
    · have n2 : ¬ eW (some d) ≤ nI (w t) := fun q => by
        have := (nI_leI (a := d.2) (by omega) (by omega)).mp q
        omega
      rw [if_neg n2]
      simp only [if_pos hl]
      rfl
    · have n2 : eW (some d) ≤ nI (w t) := (nI_leI (a := d.2) (by omega) (by omega)).mpr (by omega)
      rw [if_pos n2]
      simp only [if_neg hl]
/-- whether a tale could have come by then -/
def rch (f : Nat → Int32) (o a : Nat) : Bool := decide (cD f o < cD f a ∧ cD f o + cW f (6 * cP f o + cP f a) ≤ cD f a)
theorem x_couldReach {g : tkH} {f : Nat → Int32} (r : XR g 1 f) (v : Vd f) {o a : Nat} (ho : o < cN f) (ha : a < cN f) : f_X0_couldReach g 1 (nI o) (nI a) = some (if rch f o a = true then 1 else 0, g) := by
  have n := v.n.2
  have po := v.p ho
  have pa := v.p ha
  have d_o := v.d ho
  have da := v.d ha
  have ww := v.w (j := 6 * cP f o + cP f a) (by omega)
  have l3 : ln 3 = 10 := by simp only [LN]
  have l4 : ln 4 = 10 := by simp only [LN]
  have l9 : ln 9 = 36 := by simp only [LN]
  have q3 : ∀ x, x < 10 → rdI g 3 (nI x) = some (g 3 x) := fun x hx => rdI_n (by omega) (by omega)
  have q4 : ∀ x, x < 10 → rdI g 4 (nI x) = some (g 4 x) := fun x hx => rdI_n (by omega) (by omega)
  have a3 : g 3 o = nI (cP f o) := by rw [← po.1]; exact (r.2.1 o ho).2.1
  have b3 : g 3 a = nI (cP f a) := by rw [← pa.1]; exact (r.2.1 a ha).2.1
  have a4 : g 4 o = nI (cD f o) := by rw [← d_o.1]; exact (r.2.1 o ho).2.2.1
  have b4 : g 4 a = nI (cD f a) := by rw [← da.1]; exact (r.2.1 a ha).2.2.1
  have a9 : g 9 (6 * cP f o + cP f a) = nI (cW f (6 * cP f o + cP f a)) := by rw [← ww.1]; exact r.2.2.2 _ (by omega)
  unfold f_X0_couldReach f_X0_wayBetween
  rw [show fld 1 2 = 3 by simp only [FL], show fld 1 3 = 4 by simp only [FL], show fld 1 8 = 9 by simp only [FL], q3 o (by omega), ob, q3 a (by omega), ob, a3, b3, nl6, pk_mul, nI_add, rdI_n (by omega) (by omega), ob, show cP f o * 6 + cP f a = 6 * cP f o + cP f a by omega, a9]
  simp only [ob, i1f, eq_self, if_true, if_false]
  rw [q4 o (by omega), ob, q4 a (by omega), ob, a4, b4, ob, ob, nI_add]
  unfold rch
  by_cases c1 : cD f o < cD f a
  · rw [if_neg (by rw [nI_leI (by omega) (by omega)]; omega)]
    by_cases c2 : cD f o + cW f (6 * cP f o + cP f a) ≤ cD f a
    · rw [if_neg (by rw [nI_ltI (by omega) (by omega)]; omega), if_pos (by simp [c1, c2])]
    · rw [if_pos (by rw [nI_ltI (by omega) (by omega)]; omega), if_neg (by simp [c2])]
  · rw [if_pos (by rw [nI_leI (by omega) (by omega)]; omega), if_neg (by simp [c1])]
/-- those beside a tale: all others; or those that could have come -/
def csd (f : Nat → Int32) (a : Nat) (inT : Bool) (o : Nat) : Bool := decide (o ≠ a) && (!inT || rch f o a)
def wsd (f : Nat → Int32) (a o : Nat) : Nat := if o < cN f then (cst f o a).1 else 0
theorem wsd_le {f : Nat → Int32} (v : Vd f) {a : Nat} (ha : a < cN f) (o : Nat) : wsd f a o ≤ 180 := by
  unfold wsd
  split
  · next h => exact (cst_le v h ha).1
  · omega
theorem x_cheap {h : tkH} {f : Nat → Int32} (r : XR h 1 f) (v : Vd f) {a : Nat} (ha : a < cN f) (inT : Bool) : ∀ (m n t : Nat) (g : tkH), m + t = cN f → m < n → XK h g → Ca g f → ∃ hf, XK h hf ∧ Ca hf f ∧ f_X8_cheapestBeside_L8 0 (nI a) (bI inT) n g (eB (chb (csd f a inT) (wsd f a) t)) (eW (chb (csd f a inT) (wsd f a) t)) (nI t) = some (eB (chb (csd f a inT) (wsd f a) (cN f)), hf) := by
  have n2 := v.n.2
  intro m
  induction m with
  | zero =>
    intro n t g ht hn k c
    obtain ⟨n', rfl⟩ : ∃ n', n = n' + 1 := ⟨n - 1, by omega⟩
    refine ⟨g, k, c, ?_⟩
    rw [f_X8_cheapestBeside_L8_s, f00.1, (r.xk k).1, v.n.1, if_pos (by rw [nI_leI (by omega) (by omega)]; omega), show t = cN f by omega]
  | succ m ih =>
    intro n t g ht hn k c
    obtain ⟨n', rfl⟩ : ∃ n', n = n' + 1 := ⟨n - 1, by omega⟩
    have rg := r.xk k
    have J : csd f a inT t = true → ∃ hf, XK h hf ∧ Ca hf f ∧ f_X8_cheapestBeside_J43 0 (nI t) (nI a) (eB (chb (csd f a inT) (wsd f a) t)) (f_X8_cheapestBeside_L8 0 (nI a) (bI inT) n') (eW (chb (csd f a inT) (wsd f a) t)) g = some (eB (chb (csd f a inT) (wsd f a) (cN f)), hf) := by
      intro hc
      obtain ⟨g1, b1, b2, b3, b4, b5⟩ := x_between rg v c (a := t) (b := a) (by omega) ha
      obtain ⟨hf, d1, d2, d3⟩ := ih n' (t + 1) g1 (by omega) (by omega) (k.tr b1) b2
      refine ⟨hf, d1, d2, ?_⟩
      unfold f_X8_cheapestBeside_J43 f_X8_cheapestBeside_J70
      rw [f00.1, f00.2.2.1, b5, ob]
      have ew : wsd f a t = (cst f t a).1 := by unfold wsd; rw [if_pos (by omega)]
      have key := chb_t (α := Option (Int32 × tkH)) (w := wsd f a) hc (by omega) (fun x _ => Nat.le_trans (wsd_le v ha x) (by decide)) (fun x y => f_X8_cheapestBeside_L8 0 (nI a) (bI inT) n' g1 x y (nI (t + 1)))
      rw [ew] at key
      rw [nI_1]
      exact key.trans d3
    rw [f_X8_cheapestBeside_L8_s, f00.1, rg.1, v.n.1, if_neg (by rw [nI_leI (by omega) (by omega)]; omega)]
    by_cases e : t = a
    · rw [if_pos (by rw [e]), nI_1]
      have hc : ¬ csd f a inT t = true := by unfold csd; simp [e]
      obtain ⟨hf, d1, d2, d3⟩ := ih n' (t + 1) g (by omega) (by omega) k c
      rw [chb_f hc] at d3
      exact ⟨hf, d1, d2, d3⟩
    · rw [if_neg (nIne (by omega) (by omega) e)]
      cases inT with
      | false =>
        rw [if_pos (show bI false = 0 from rfl)]
        exact J (by unfold csd; simp [e])
      | true =>
        rw [if_neg (show ¬ bI true = 0 by decide), x_couldReach rg v (by omega) ha, ob]
        by_cases hr : rch f t a = true
        · rw [if_pos hr]
          simp only [i1f, if_false]
          exact J (by unfold csd; simp [e, hr])
        · rw [if_neg hr]
          simp only [eq_self, if_true]
          rw [nI_1]
          have hc : ¬ csd f a true t = true := by unfold csd; simp [hr]
          obtain ⟨hf, d1, d2, d3⟩ := ih n' (t + 1) g (by omega) (by omega) k c
          rw [chb_f hc] at d3
          exact ⟨hf, d1, d2, d3⟩
theorem m_nearL {f : Nat → Int32} (v : Vd f) {a : Nat} (ha : a < cN f) {kx : tkH → Int32 → Option (Int32 × tkH)} : ∀ (m n t : Nat) (g : tkH), m + t = cN f → m < n → g 218 = f → ∃ hf, MF g hf ∧ f_X9_nearest_L22 217 (nI a) kx n g (eB (chb (csd f a false) (wsd f a) t)) (eW (chb (csd f a false) (wsd f a) t)) (nI t) = kx hf (eB (chb (csd f a false) (wsd f a) (cN f))) := by
  have n2 := v.n.2
  have rz : ∀ g : tkH, rdI g 218 0 = some (g 218 0) := fun g => r218 (k := 0) (by decide)
  intro m
  induction m with
  | zero =>
    intro n t g ht hn e
    obtain ⟨n', rfl⟩ : ∃ n', n = n' + 1 := ⟨n - 1, by omega⟩
    refine ⟨g, MF.rf, ?_⟩
    rw [f_X9_nearest_L22_s, show fld 217 0 = 218 by simp only [FL], rz, ob, e, v.n.1, if_pos (by rw [nI_leI (by omega) (by omega)]; omega), show t = cN f by omega]
  | succ m ih =>
    intro n t g ht hn e
    obtain ⟨n', rfl⟩ : ∃ n', n = n' + 1 := ⟨n - 1, by omega⟩
    rw [f_X9_nearest_L22_s, show fld 217 0 = 218 by simp only [FL], rz, ob, e, v.n.1, if_neg (by rw [nI_leI (by omega) (by omega)]; omega)]
    unfold f_X9_nearest_J51 f_X9_nearest_J69
    by_cases ea : t = a
    · rw [if_pos (by rw [ea]), if_pos (by rw [ea]), nI_1]
      have hc : ¬ csd f a false t = true := by unfold csd; simp [ea]
      obtain ⟨hf, d1, d2⟩ := ih n' (t + 1) g (by omega) (by omega) e
      rw [chb_f hc] at d2
      exact ⟨hf, d1, d2⟩
    · rw [if_neg (nIne (by omega) (by omega) ea)]
      obtain ⟨g1, b1, b2, b3, b4⟩ := m_costOf (h := g) (a := t) (b := a) (by rw [e]; exact v) (by rw [e]; omega) (by rw [e]; exact ha)
      rw [e] at b4
      rw [b4, ob, if_neg (nIne (by omega) (by omega) ea)]
      obtain ⟨hf, d1, d2⟩ := ih n' (t + 1) g1 (by omega) (by omega) (b1.f.trans e)
      refine ⟨hf, b1.tr d1, ?_⟩
      have hc : csd f a false t = true := by unfold csd; simp [ea]
      have ew : wsd f a t = (cst f t a).1 := by unfold wsd; rw [if_pos (by omega)]
      have key := chb_t (α := Option (Int32 × tkH)) (w := wsd f a) hc (by omega) (fun x _ => Nat.le_trans (wsd_le v ha x) (by decide)) (fun x y => f_X9_nearest_L22 217 (nI a) kx n' g1 x y (nI (t + 1)))
      rw [ew] at key
      rw [nI_1]
      exact key.trans d2
theorem m_srcL {f : Nat → Int32} (v : Vd f) {a : Nat} (ha : a < cN f) : ∀ (m n t : Nat) (g : tkH), m + t = cN f → m < n → g 218 = f → ∃ hf, MF g hf ∧ f_X9_sourceOf_L29 217 (nI a) n g (eB (chb (csd f a true) (wsd f a) t)) (eW (chb (csd f a true) (wsd f a) t)) (nI t) = some (eB (chb (csd f a true) (wsd f a) (cN f)), hf) := by
  have n2 := v.n.2
  have rz : ∀ g : tkH, rdI g 218 0 = some (g 218 0) := fun g => r218 (k := 0) (by decide)
  have pa := v.p ha
  have da := v.d ha
  intro m
  induction m with
  | zero =>
    intro n t g ht hn e
    obtain ⟨n', rfl⟩ : ∃ n', n = n' + 1 := ⟨n - 1, by omega⟩
    refine ⟨g, MF.rf, ?_⟩
    rw [f_X9_sourceOf_L29_s, show fld 217 0 = 218 by simp only [FL], rz, ob, e, v.n.1, if_pos (by rw [nI_leI (by omega) (by omega)]; omega), show t = cN f by omega]
  | succ m ih =>
    intro n t g ht hn e
    obtain ⟨n', rfl⟩ : ∃ n', n = n' + 1 := ⟨n - 1, by omega⟩
    have pt := v.p (t := t) (by omega)
    have dt := v.d (t := t) (by omega)
    have ww := v.w (j := 6 * cP f t + cP f a) (by omega)
    have skip : ¬ csd f a true t = true → ∃ hf, MF g hf ∧ f_X9_sourceOf_L29 217 (nI a) n' g (eB (chb (csd f a true) (wsd f a) t)) (eW (chb (csd f a true) (wsd f a) t)) (nI (t + 1)) = some (eB (chb (csd f a true) (wsd f a) (cN f)), hf) := by
      intro hc
      obtain ⟨hf, d1, d2⟩ := ih n' (t + 1) g (by omega) (by omega) e
      rw [chb_f hc] at d2
      exact ⟨hf, d1, d2⟩
    rw [f_X9_sourceOf_L29_s, show fld 217 0 = 218 by simp only [FL], rz, ob, e, v.n.1, if_neg (by rw [nI_leI (by omega) (by omega)]; omega), nl60, nl50, nl4, nl6, nI_add, nI_add, nI_add, nI_add, r218 (by omega), ob, r218 (by omega), ob, r218 (by omega), ob, e, pt.1, pa.1, pk_mul, nI_add, nI_add, r218 (by omega), ob, r218 (by omega), ob, ob, e, dt.1, da.1, show 4 + 6 * cP f t + cP f a = 4 + (6 * cP f t + cP f a) by omega, ww.1, nI_add, nI_1]
    by_cases ea : t = a
    · rw [if_pos (by rw [ea])]
      exact skip (by unfold csd; simp [ea])
    · rw [if_neg (nIne (by omega) (by omega) ea)]
      by_cases c1 : cD f t < cD f a
      · rw [if_neg (by rw [nI_leI (by omega) (by omega)]; omega)]
        by_cases c2 : cD f t + cW f (6 * cP f t + cP f a) ≤ cD f a
        · rw [if_pos (by rw [nI_leI (by omega) (by omega)]; omega)]
          obtain ⟨g1, b1, b2, b3, b4⟩ := m_costOf (h := g) (a := t) (b := a) (by rw [e]; exact v) (by rw [e]; omega) (by rw [e]; exact ha)
          rw [e] at b4
          rw [b4, ob]
          unfold f_X9_sourceOf_J143
          obtain ⟨hf, d1, d2⟩ := ih n' (t + 1) g1 (by omega) (by omega) (b1.f.trans e)
          refine ⟨hf, b1.tr d1, ?_⟩
          have hc : csd f a true t = true := by unfold csd rch; simp [ea, c1, c2]
          have ew : wsd f a t = (cst f t a).1 := by unfold wsd; rw [if_pos (by omega)]
          have key := chb_t (α := Option (Int32 × tkH)) (w := wsd f a) hc (by omega) (fun x _ => Nat.le_trans (wsd_le v ha x) (by decide)) (fun x y => f_X9_sourceOf_L29 217 (nI a) n' g1 x y (nI (t + 1)))
          rw [ew] at key
          rw [nI_1]
          exact key.trans d2
        · rw [if_neg (by rw [nI_leI (by omega) (by omega)]; omega)]
          exact skip (by unfold csd rch; simp [c2])
      · rw [if_pos (by rw [nI_leI (by omega) (by omega)]; omega)]
        exact skip (by unfold csd rch; simp [c1])
/-- SOURCE of a tale, if it has one -/
def src (f : Nat → Int32) (a : Nat) : Option Nat := match prt f a with
  | some q => some q
  | none => (chb (csd f a true) (wsd f a) (cN f)).map (fun b => b.1)
def eS (o : Option Nat) : Int32 := match o with
  | none => -1
  | some q => nI q
theorem eB_eS (o : Option (Nat × Nat)) : eB o = eS (o.map (fun b => b.1)) := by cases o <;> rfl
theorem src_lt {f : Nat → Int32} (v : Vd f) {a q : Nat} (ha : a < cN f) (e : src f a = some q) : q < cN f := by
  unfold src at e
  cases h1 : prt f a with
  | some p =>
    rw [h1] at e
    cases e
    exact prt_lt v ha h1
  | none =>
    rw [h1] at e
    cases h2 : chb (csd f a true) (wsd f a) (cN f) with
    | none => rw [h2] at e; cases e
    | some b =>
      rw [h2] at e
      cases e
      exact (chb_ok _ _ h2).1
theorem prt_cases {f : Nat → Int32} (v : Vd f) {a : Nat} (ha : a < cN f) : (f (80 + a) < 0 ∧ prt f a = none) ∨ ∃ q, q < cN f ∧ f (80 + a) = nI q ∧ ¬ f (80 + a) < 0 ∧ prt f a = some q := by
  have n := v.n.2
  rcases (v.2.2.2.1 a ha).2.2.2.2.1 with z | ⟨q, hq, z⟩
  · refine Or.inl ⟨by rw [z]; decide, ?_⟩
    unfold prt
    rw [z, if_pos (by decide)]
  · refine Or.inr ⟨q, hq, z, by rw [z]; exact nI_pos (by omega), ?_⟩
    unfold prt
    rw [z, if_neg (nI_pos (by omega)), nI_clamp (by omega)]
theorem x_sourceOf {h : tkH} {f : Nat → Int32} (r : XR h 1 f) (v : Vd f) {a : Nat} (ha : a < cN f) (c : Ca h f) : ∃ hf, XK h hf ∧ Ca hf f ∧ f_X8_sourceOf h 0 (nI a) = some (eS (src f a), hf) := by
  have n := v.n.2
  have l5 : ln 5 = 10 := by simp only [LN]
  have e5 : h 5 a = f (80 + a) := (r.2.1 a ha).2.2.2.1
  unfold f_X8_sourceOf f_X8_cheapestBeside
  rw [f00.1, show fld 1 4 = 5 by simp only [FL], rdI_n (by omega) (by omega), ob, e5]
  rcases prt_cases v ha with ⟨z1, z2⟩ | ⟨q, hq, z1, z2, z3⟩
  · rw [if_pos z1]
    obtain ⟨hf, d1, d2, d3⟩ := x_cheap r v ha true (cN f) FU 0 h (by omega) (FU_gt (by omega)) XK.rf c
    refine ⟨hf, d1, d2, ?_⟩
    have d3' : f_X8_cheapestBeside_L8 0 (nI a) 1 FU h (-1) 0 0 = some (eB (chb (csd f a true) (wsd f a) (cN f)), hf) := d3
    rw [d3', ob, eB_eS]
    unfold src
    rw [z2]
  · rw [if_neg z2, ob]
    refine ⟨h, XK.rf, c, ?_⟩
    unfold src
    rw [z3, z1]
    rfl
theorem m_sourceOf {g : tkH} {f : Nat → Int32} (v : Vd f) (e : g 218 = f) {a : Nat} (ha : a < cN f) : ∃ hf, MF g hf ∧ f_X9_sourceOf g 217 (nI a) = some (eS (src f a), hf) := by
  have n := v.n.2
  unfold f_X9_sourceOf
  rw [show fld 217 0 = 218 by simp only [FL], nl80, nI_add, r218 (by omega), ob, e]
  rcases prt_cases v ha with ⟨z1, z2⟩ | ⟨q, hq, z1, z2, z3⟩
  · rw [if_pos z1]
    obtain ⟨hf, d1, d2⟩ := m_srcL v ha (cN f) FU 0 g (by omega) (FU_gt (by omega)) e
    refine ⟨hf, d1, ?_⟩
    have d3' : f_X9_sourceOf_L29 217 (nI a) FU g (-1) 0 0 = some (eB (chb (csd f a true) (wsd f a) (cN f)), hf) := d2
    rw [d3', eB_eS]
    unfold src
    rw [z2]
  · rw [if_neg z2, ob]
    refine ⟨g, MF.rf, ?_⟩
    unfold src
    rw [z3, z1]
    rfl
theorem eS_neg {o : Option Nat} (h : o = none) : ¬ 0 ≤ eS o := by rw [h]; decide
theorem eS_pos {o : Option Nat} {q : Nat} (h : o = some q) (hq : q < 2 ^ 31) : 0 ≤ eS o := by rw [h]; exact nI_pos' hq
theorem op_nearest {h : tkH} (I : Inv h) (a : Int32) : OP (f_X8_nearest h 0 a) (fun g => f_X9_nearest g 217 a) := by
  have v := I.1
  have n2 := v.n.2
  by_cases ha : ∃ t, t < cN (h 218) ∧ a = nI t
  · obtain ⟨t, ht, rfl⟩ := ha
    obtain ⟨h1, d1, d2, d3⟩ := x_cheap I.2.1 v ht false (cN (h 218)) FU 0 h (by omega) (FU_gt (by omega)) XK.rf I.2.2.2.2.1
    have d3' : f_X8_cheapestBeside_L8 0 (nI t) 0 FU h (-1) 0 0 = some (eB (chb (csd (h 218) t false) (wsd (h 218) t) (cN (h 218))), h1) := d3
    have hM : ∀ g : tkH, g 218 = h 218 → ∃ hf, MF g hf ∧ f_X9_nearest g 217 (nI t) = if 0 ≤ eB (chb (csd (h 218) t false) (wsd (h 218) t) (cN (h 218))) then some (eB (chb (csd (h 218) t false) (wsd (h 218) t) (cN (h 218))), hf) else some (-100006, tkup hf 217 3 (hf 217 3 + 1)) := by
      intro g e
      obtain ⟨hf, c1, c2⟩ := m_nearL (kx := fun gz81 z81_2 => if 0 ≤ z81_2 then (some (z81_2, gz81)) else ((f_X9_finding gz81 217 (-100006)).bind fun x88 => some (x88.1, x88.2))) v ht (cN (h 218)) FU 0 g (by omega) (FU_gt (by omega)) e
      have c2' : f_X9_nearest_L22 217 (nI t) (fun gz81 z81_2 => if 0 ≤ z81_2 then (some (z81_2, gz81)) else ((f_X9_finding gz81 217 (-100006)).bind fun x88 => some (x88.1, x88.2))) FU g (-1) 0 0 = _ := c2
      refine ⟨hf, c1, ?_⟩
      unfold f_X9_nearest
      rw [m_isTale_t (n := cN (h 218)) (by rw [e]; exact v.n.1) n2 ht]
      simp only [ob, i1f, eq_self, if_true, if_false]
      rw [c2']
      rfl
    have hX : f_X8_nearest h 0 (nI t) = if 0 ≤ eB (chb (csd (h 218) t false) (wsd (h 218) t) (cN (h 218))) then some (eB (chb (csd (h 218) t false) (wsd (h 218) t) (cN (h 218))), h1) else some (-100006, tkup h1 0 6 (h1 0 6 + 1)) := by
      unfold f_X8_nearest f_X8_cheapestBeside
      rw [f00.1, x_hasTale_t I.x0 n2 ht]
      simp only [ob, i1f, eq_self, if_true, if_false]
      rw [d3']
      simp only [ob, i1f, eq_self, if_true, if_false]
      rfl
    by_cases c : 0 ≤ eB (chb (csd (h 218) t false) (wsd (h 218) t) (cN (h 218)))
    · obtain ⟨h2, m1, m2⟩ := hM h1 (d1 218 (by omega))
      exact OP.q (h1 := h1) (h2 := h2) I (by rw [hX, if_pos c]) (by show f_X9_nearest h1 217 (nI t) = _; rw [m2, if_pos c]) d1.p d2 m1
    · refine OP.f (h1 := h1) I d1.p d2 (by rw [hX, if_neg c]) (fun g e => ?_)
      obtain ⟨h2, m1, m2⟩ := hM g ((e 218 (by decide)).trans (d1 218 (by omega)))
      exact ⟨h2, m1, by show f_X9_nearest g 217 (nI t) = _; rw [m2, if_neg c]⟩
  · refine OP.f0 (c := -100001) I ?_ (fun g e => ?_)
    · unfold f_X8_nearest
      rw [f00.1, x_hasTale_f I.x0 n2 ha]
      simp only [ob, i1f, eq_self, if_true, if_false]
      rfl
    · show f_X9_nearest g 217 a = _
      unfold f_X9_nearest
      rw [m_isTale_f (n := cN (h 218)) (by rw [e 218 (by decide)]; exact v.n.1) n2 ha]
      simp only [ob, i1f, eq_self, if_true, if_false]
      rfl
theorem op_source {h : tkH} (I : Inv h) (a : Int32) : OP (f_X8_source h 0 a) (fun g => f_X9_source g 217 a) := by
  have v := I.1
  have n2 := v.n.2
  by_cases ha : ∃ t, t < cN (h 218) ∧ a = nI t
  · obtain ⟨t, ht, rfl⟩ := ha
    obtain ⟨h1, d1, d2, d3⟩ := x_sourceOf I.2.1 v ht I.2.2.2.2.1
    have hM : ∀ g : tkH, g 218 = h 218 → ∃ hf, MF g hf ∧ f_X9_source g 217 (nI t) = if 0 ≤ eS (src (h 218) t) then some (eS (src (h 218) t), hf) else some (-100006, tkup hf 217 3 (hf 217 3 + 1)) := by
      intro g e
      obtain ⟨hf, c1, c2⟩ := m_sourceOf v e ht
      refine ⟨hf, c1, ?_⟩
      unfold f_X9_source
      rw [m_isTale_t (n := cN (h 218)) (by rw [e]; exact v.n.1) n2 ht]
      simp only [ob, i1f, eq_self, if_true, if_false]
      rw [c2]
      simp only [ob, i1f, eq_self, if_true, if_false]
      rfl
    have hX : f_X8_source h 0 (nI t) = if 0 ≤ eS (src (h 218) t) then some (eS (src (h 218) t), h1) else some (-100006, tkup h1 0 6 (h1 0 6 + 1)) := by
      unfold f_X8_source
      rw [f00.1, x_hasTale_t I.x0 n2 ht]
      simp only [ob, i1f, eq_self, if_true, if_false]
      rw [d3]
      simp only [ob, i1f, eq_self, if_true, if_false]
      rfl
    by_cases c : 0 ≤ eS (src (h 218) t)
    · obtain ⟨h2, m1, m2⟩ := hM h1 (d1 218 (by omega))
      exact OP.q (h1 := h1) (h2 := h2) I (by rw [hX, if_pos c]) (by show f_X9_source h1 217 (nI t) = _; rw [m2, if_pos c]) d1.p d2 m1
    · refine OP.f (h1 := h1) I d1.p d2 (by rw [hX, if_neg c]) (fun g e => ?_)
      obtain ⟨h2, m1, m2⟩ := hM g ((e 218 (by decide)).trans (d1 218 (by omega)))
      exact ⟨h2, m1, by show f_X9_source g 217 (nI t) = _; rw [m2, if_neg c]⟩
  · refine OP.f0 (c := -100001) I ?_ (fun g e => ?_)
    · unfold f_X8_source
      rw [f00.1, x_hasTale_f I.x0 n2 ha]
      simp only [ob, i1f, eq_self, if_true, if_false]
      rfl
    · show f_X9_source g 217 a = _
      unfold f_X9_source
      rw [m_isTale_f (n := cN (h 218)) (by rw [e 218 (by decide)]; exact v.n.1) n2 ha]
      simp only [ob, i1f, eq_self, if_true, if_false]
      rfl
